/** The section TEXT of the document: each sentence that names an edge, looked at on both sides of it. */
public final class EdgesOfTextTest {
    public static void main(String[] args) {
        theTape();
        linesAndBlanks();
        theLongestTokens();
        wordsAndSigns();
        howMany();
        whatIsWanted();
        howSignsBind();
        aheadOfEquals();
        depth();
        theFirstFault();
        functionsThatClash();
        calls();
        guards();
        functionsAtomsTokens();
        namesAtOnePlace();
        whereNamesEnd();
        hiddenAndHeld();
        House.close();
    }

    private static void fine(String text) {
        House.faultDue(text, 0, 0);
    }

    private static void fault(String text, int number, int line) {
        House.faultDue(text, number, line);
    }

    /** How many tokens a text has that can be read. */
    private static void tokens(String text, int due) {
        House.due("tokens of " + text, House.of(text).house.count(0), due);
    }

    /** "first, first + 1, .." with a text around each number. */
    private static String row(String ahead, int from, int count, String behind, String between) {
        StringBuilder text = new StringBuilder();
        for (int i = from; i < from + count; i++) {
            text.append(i == from ? "" : between).append(ahead).append(i).append(behind);
        }
        return text.toString();
    }

    private static void theTape() {
        House.says("A TAPE has at most 4,000 bytes.");
        String text = "a() -> 1.";
        fine(text + " ".repeat(4000 - text.length()));
        fine(" ".repeat(4000 - text.length()) + text);
        fault("\n".repeat(4000), 2, 4001);
        // A token that ends where the tape does.
        String[] last = {"a() -> 1. b", "a() -> 12", "a() -> Bc", "a() -> \"", "a() -> \"b", "a() -> 1 -", "a() -> 1 %", "a() -> 99999999999", "a() -> 1. abcdefghijklmnopq"};
        int[] faults = {2, 2, 2, 1, 1, 2, 2, 1, 1};
        for (int i = 0; i < last.length; i++) {
            fault(" ".repeat(4000 - last[i].length()) + last[i], faults[i], 1);
        }
        // As many tokens as there can be: none of them is out of reach.
        fault("a()->1" + ",1".repeat(1996) + ",)", 2, 1);
        fault("a()->1" + ",1".repeat(1996) + ".", 8, 0);
        fault("a()->" + "a;".repeat(1997), 2, 1);
        House full = new House().feed("%".repeat(4000));
        House.due("one byte more", full.house.feed(0, 0, 0, 0, 0), MailHouse.NONE);
        House.due("4,000 bytes", full.house.count(3), 4000);
    }

    private static void linesAndBlanks() {
        House.says("LINES are counted from 1 on by the bytes 10.");
        fault(")", 2, 1);
        fault("\n)", 2, 2);
        fault("a() ->\n1\n\n;)", 2, 4);
        fault("% one\n% two\n)", 2, 3);
        fault("a() -> X\n\n\n.", 5, 1);
        House.says("between them blanks (9, 10, 32)");
        fine("a\t( )\n->\t1 .");
        fine("\t \n a()->1.\t \n");
        for (int sign : new int[] {0, 8, 11, 12, 13, 31, 127, 128, 137, 138, 160, 255}) {
            fault("a() ->" + (char) sign + "1.", 1, 1);
        }
        House.says("comments (% up to a 10 or the end)");
        fine("a() -> 1. % to the end");
        fine("a() -> 1. %");
        fine("% \0\r\"@\u00ff\na() -> 1.");
        fault("a() -> 1 % .", 2, 1);
        fine("a() -> 1 % .\n.");
        tokens("a() -> \"%\".", 6);
    }

    private static void theLongestTokens() {
        House.says("ATOMS: a small letter, then letters, digits, _ ; 16 at most.");
        fine("aB9_aB9_aB9_aB9_() -> 1.");
        fault("\naB9_aB9_aB9_aB9_a() -> 1.", 1, 2);
        House longest = House.of("zzzzzzzzzzzzzzzz() -> 1.");
        House.due("its last sign", longest.house.letter(22, 15), 'z');
        House.due("behind it", longest.house.letter(22, 16), MailHouse.NONE);
        House.says("NAMES: a great letter or _ , then likewise.");
        fine("a(AB9_aB9_aB9_aB9_) -> 1.");
        fault("a(\nAB9_aB9_aB9_aB9_a) -> 1.", 1, 2);
        fine("a(________________) -> 1.");
        fault("a(_________________) -> 1.", 1, 1);
        fine("a(__) -> __.");
        House.says("NUMBERS: digits, 2147483647 at most, no letter, digit or _ behind.");
        fine("a() -> 2147483647.");
        fault("a() -> 2147483648.", 1, 1);
        fault("a() -> 2147483650.", 1, 1);
        fault("a() -> 4294967296.", 1, 1);
        fault("a() -> 4294967297.", 1, 1);
        fault("a() -> 18446744073709551617.", 1, 1);
        fine("a() -> 00000000000000000000000002147483647.");
        fault("a() -> - 2147483648.", 1, 1);
        for (char behind : "azAZ_".toCharArray()) {
            fault("a() ->\n 0" + behind + ".", 1, 2);
        }
        tokens("a() -> [1|2].", 10);
        House.says("STRINGS: between two \", at most 40 signs of 32 .. 126 but \".");
        fine("a() -> \"\".");
        fine("a() -> \"" + "~ ".repeat(20) + "\".");
        fault("a() -> \"" + "~ ".repeat(20) + "~\".", 1, 1);
        fault("a() -> \"" + (char) 31 + "\".", 1, 1);
        fault("a() -> \"" + (char) 127 + "\".", 1, 1);
        fault("a() -> \"" + (char) 10 + "\".", 1, 1);
        fault("a() -> \"" + (char) 200 + "\".", 1, 1);
        fault("a() ->\n\"abc.", 1, 2);
        fault("a() -> \"abc.\n", 1, 1);
        fault("a() -> \"", 1, 1);
        fault("a() -> \"a\"b\".", 2, 1);
    }

    private static void wordsAndSigns() {
        House.says("TOKENS, each as long as can be");
        tokens("a()->1--1.", 8);
        tokens("a()->1- -1.", 9);
        tokens("a()->1>=2.", 8);
        tokens("a()->1=<2.", 8);
        tokens("a()->1/=2.", 8);
        tokens("a()->1==2.", 8);
        tokens("a()->[]++[].", 10);
        tokens("a()->X=-1.", 9);
        tokens("a()->fun a/0.", 9);
        tokens("a()->endx.", 6);
        fault("a()-->1.", 2, 1);
        fault("a()->1<=2.", 2, 1);
        fault("a()->1=>2.", 2, 1);
        fault("a()->1===2.", 2, 1);
        fault("a()->--1.", 2, 1);
        fault("a()->1+++2.", 2, 1);
        fault("a()->1++ +2.", 2, 1);
        fine("a()->1---2.");
        House.says("WORDS (no ATOMS): after andalso begin case catch div end fun if not of orelse receive rem when.");
        for (String word : "after andalso begin case catch div end fun if not of orelse receive rem when".split(" ")) {
            fault("\n" + word + "() -> 1.", 2, 2);
            fine(word + "s() -> 1.");
            fault("a(" + word + ") -> 1.", 2, 1);
        }
        House.due("no ATOMS", House.of("a() -> begin case 1 of 1 -> not true andalso true orelse 2 rem 1 div 1 end end.").house.count(2), 23);
        House.says("SIGNS: ( ) { } [ ] , ; . | -> = == /= < =< > >= + - * ! ++ -- /");
        for (char none : "@#$&'?:\\^`~".toCharArray()) {
            fault("a() ->\n" + none, 1, 2);
        }
        for (String sign : ") } ] , ; . | -> = == /= < =< > >= + * ! ++ -- /".split(" ")) {
            fault("a() ->\n" + sign, 2, 2);
        }
        for (String sign : "( { [ -".split(" ")) {
            fault("a() ->\n" + sign + "\n", 2, 3);
        }
    }

    private static void howMany() {
        House.says("PROGRAM: one FUNCTION or more.");
        fault("", 2, 1);
        fault("% nothing", 2, 1);
        fine("a() -> 1.");
        fine("a() -> 1. b() -> 2.");
        fault("a() -> 1. b", 2, 1);
        House.says("FUNCTION: CLAUSES with ; between, and . CLAUSE: ATOM ( PATTERNS ) [when GUARD] -> BODY");
        fine("a(1) -> 1; a(2) -> 2; a(_) when true -> 3.");
        fault("a() -> 1;\n.", 2, 2);
        fault("a() -> 1;\n", 2, 2);
        fault("a() -> 1;\n; a() -> 2.", 2, 2);
        fault("a() -> 1.\n. b() -> 1.", 2, 2);
        fault("a() -> 1.\n; a() -> 2.", 2, 2);
        fault("a\n-> 1.", 2, 2);
        fault("a(\n-> 1.", 2, 2);
        fault("a()\n1.", 2, 2);
        fault("a() when\n-> 1.", 2, 2);
        fault("a() when true,\n-> 1.", 2, 2);
        fault("a() when true\n.", 2, 2);
        fault("a() when true\nwhen true -> 1.", 2, 2);
        fault("A() -> 1.", 2, 1);
        fault("1() -> 1.", 2, 1);
        fault("\"a\"() -> 1.", 2, 1);
        fault("(a)() -> 1.", 2, 1);
        House.says("as many PATTERNS (6 at most)");
        fine("a(1,2,3,4,5,6) -> 1.");
        fault("a(1,2,3,4,5,6\n,\n7) -> 1.", 2, 2);
        fine("a() -> fun(1,2,3,4,5,6) -> 1 end.");
        fault("a() -> fun(1,2,3,4,5,6\n,\n7) -> 1 end.", 2, 2);
        House.says("PATTERNS and ARGUMENTS: with commas, 6 at most, or none.");
        fine("a(_,_,_,_,_,_) -> a(1,2,3,4,5,6).");
        fault("a(_,_,_,_,_,_) -> a(1,2,3,4,5,6\n,\n7).", 2, 2);
        fine("a(X) -> X(1,2,3,4,5,6)(1,2,3,4,5,6)().");
        fault("a(X) -> X(1,2,3,4,5,6\n,\n7).", 2, 2);
        fault("a(,) -> 1.", 2, 1);
        fault("a(1,) -> 1.", 2, 1);
        fault("a() -> a(,).", 2, 1);
        fault("a() -> a(1,).", 2, 1);
        House.says("{ E, .. } (8 at most, or none), [ E, .. ] (8 at most, or none), [ E, .. | E ]");
        fine("a() -> {{}, {1,2,3,4,5,6,7,8}}.");
        fault("a() -> {1,2,3,4,5,6,7,8\n,\n9}.", 2, 2);
        fault("a() -> {1,}.", 2, 1);
        fault("a() -> {,}.", 2, 1);
        fine("a() -> [[], [1,2,3,4,5,6,7,8]].");
        fault("a() -> [1,2,3,4,5,6,7,8\n,\n9].", 2, 2);
        fine("a() -> [1,2,3,4,5,6,7,8|9].");
        fault("a() -> [1,2,3,4,5,6,7,8\n,\n9|10].", 2, 2);
        fault("a() -> [|1].", 2, 1);
        fault("a() -> [1|].", 2, 1);
        fault("a() -> [1|2,3].", 2, 1);
        fault("a() -> {1|2}.", 2, 1);
        House.says("{ P, .. }, [ P, .. ], [ P, .. | P ] ({ and [ as above)");
        fine("a({},{1,2,3,4,5,6,7,8}) -> 1.");
        fault("a({1,2,3,4,5,6,7,8\n,\n9}) -> 1.", 2, 2);
        fine("a([],[1,2,3,4,5,6,7,8]) -> 1.");
        fault("a([1,2,3,4,5,6,7,8\n,\n9]) -> 1.", 2, 2);
        fine("a([1,2,3,4,5,6,7,8|9]) -> 1.");
        fault("a([|1]) -> 1.", 2, 1);
        fine("a() -> {1,2,3,4,5,6,7,8} = [] = [1,2,3,4,5,6,7,8|_] = 1.");
    }

    private static void whatIsWanted() {
        House.says("receive [CASES] [after E -> BODY] end (one of both at least)");
        fault("a() -> receive\nend.", 2, 2);
        fine("a() -> receive 1 -> 2 end.");
        fine("a() -> receive after 1 -> 2 end.");
        fine("a() -> receive 1 -> 2; 3 -> 4 after 1 -> 2 end.");
        fault("a() -> receive 1 -> 2;\nafter 1 -> 2 end.", 2, 2);
        fault("a() -> receive after 1 -> 2\nafter 1 -> 2 end.", 2, 2);
        House.says("CASES: P [when GUARD] -> BODY, with ; between.");
        fault("a() -> case 1 of\nend.", 2, 2);
        fault("a() -> case 1 of 1 -> 2;\nend.", 2, 2);
        fault("a() -> case 1 of 1\n; 2 -> 3 end.", 2, 2);
        fault("a() -> case 1 of 1 ->\nend.", 2, 2);
        fault("a() -> case 1 of 1 when\n-> 1 end.", 2, 2);
        fault("a() -> case 1 of 1 + \n2 -> 1 end.", 2, 1);
        House.says("CHOICES: GUARD -> BODY, with ; between. GUARD: E, .. .");
        fault("a() -> if\nend.", 2, 2);
        fault("a() -> if true -> 1;\nend.", 2, 2);
        fault("a() -> if true,\n-> 1 end.", 2, 2);
        fine("a() -> if true, false, true -> 1; true -> 2 end.");
        House.says("BODY: E, .. .");
        fault("a() ->\n.", 2, 2);
        fault("a() -> 1,\n.", 2, 2);
        fault("a() -> begin\nend.", 2, 2);
        House.says("E: catch E, or S. S: L = S, L ! S, or L.");
        fine("a() -> catch catch 1.");
        fine("a() -> catch X = b ! Y = 1.");
        fault("a() -> X =\ncatch 1.", 2, 2);
        fault("a() -> b !\ncatch 1.", 2, 2);
        fault("a() -> 1 +\ncatch 1.", 2, 2);
        fault("a() -> not\ncatch 1.", 2, 2);
        fault("a() -> -\ncatch 1.", 2, 2);
        fine("a() -> [catch 1, (catch 2), {catch 3} | catch 4].");
        fine("a() -> receive after catch 1 -> catch 2 end, case catch 1 of 1 -> catch 2 end, begin catch 1 end, print(catch 1), 1(catch 2).");
        fine("a() -> receive 1 -> catch 2 end, if true -> catch 1 end, fun() -> catch 1 end.");
        House.says("P (a PATTERN) stands where one is wanted");
        String[] wanted = {"a(P) -> 1.", "a(1,P) -> 1.", "a({P}) -> 1.", "a([P]) -> 1.", "a([1|P]) -> 1.", "a((P)) -> 1.", "a() -> case 1 of P -> 1 end.", "a() -> case 1 of 1 -> 1; {P} -> 1 end.",
            "a() -> receive P -> 1 end.", "a() -> receive [P] -> 1 end.", "a() -> fun(P) -> 1 end.", "a() -> fun({1,[2|P]}) -> 1 end."};
        for (String place : wanted) {
            for (String none : new String[] {"1 + 2", "f()", "X()", "- X", "- - 1", "- (1)", "1()", "catch 1", "begin 1 end", "X = 1", "b ! 1", "not 1", "fun() -> 1 end", "fun a/1", "1 == 1",
                "case 1 of 1 -> 1 end", "if true -> 1 end", "receive 1 -> 1 end", ",", "."}) {
                fault(place.replace("P", none), 2, 1);
            }
            for (String one : new String[] {"X", "_", "1", "- 1", "b", "\"s\"", "{}", "{X,Y}", "[]", "[X|Y]", "(X)"}) {
                fine(place.replace("P", one));
            }
        }
        House.says("fun ATOM / NUMBER");
        fine("a(_,_) -> fun a/2.");
        fault("a() -> fun\nA/0.", 2, 2);
        fault("a() -> fun a\n(0).", 2, 2);
        fault("a() -> fun a/\n-1.", 2, 2);
        fault("a() -> fun() -> 1\n; () -> 2 end.", 2, 2);
        House.says("then a PRIMARY with any of ( ARGUMENTS ) behind it");
        fine("a() -> 1()()(2).");
        fine("a() -> fun a/0(1).");
        fine("a() -> begin 1 end(1), {}(1), [](1), \"\"(1), -a()(1).");
        fault("a() -> 1\n2.", 2, 2);
    }

    private static void howSignsBind() {
        House.says("== /= < =< > >= (once)");
        String[] compares = {"==", "/=", "<", "=<", ">", ">="};
        for (String one : compares) {
            fine("a() -> 1 " + one + " 2.");
            for (String other : compares) {
                fault("a() -> 1 " + one + " 2 + 3\n" + other + " 4.", 2, 2);
                fine("a() -> (1 " + one + " 2) " + other + " 4.");
                fine("a() -> 1 " + one + " 2 andalso 3 " + other + " 4 orelse 5 " + one + " 6.");
            }
        }
        House.says("++ -- (from the right); + - ; * div rem (both from the left, as orelse, andalso)");
        House.value("[1,2,3] -- [1,2] -- [2]", "[2,3]");
        House.value("[1] ++ [2,4] -- [2] ++ [3]", "[1,4]");
        House.value("10 - 4 - 3", "3");
        House.value("10 - 4 + 3", "9");
        House.value("100 div 10 div 5", "2");
        House.value("100 div 10 * 5", "50");
        House.value("17 rem 10 rem 4", "3");
        House.value("2 + 3 * 4 - 6 div 2", "11");
        House.value("catch (true orelse 1 orelse 2)", "true");
        House.value("catch (false andalso 1 andalso 2)", "false");
        House.value("false orelse true andalso 7", "7");
        House.value("true orelse true andalso 7", "true");
        House.value("1 + 1 == 2 andalso [1] ++ [2] == [1,2]", "true");
        House.value("[5] ++ 1 + 1 < [5|3]", "true");
        House.says("then - not ahead of one (a unit behind it, also of these)");
        House.value("- - - 5", "-5");
        House.value("not not true", "true");
        House.value("- 2 * 3", "-6");
        House.value("2 * - 3", "-6");
        House.value("1 - -1", "2");
        House.value("not true == false", "true");
        House.value("catch - not true", "{error,badarith}");
    }

    private static void aheadOfEquals() {
        House.says("what stands ahead of = is no P: 2 at the =");
        String[] no = {"1 + 2", "f()", "X()", "(1)()", "- X", "- (1)", "- - 1", "not 1", "{1, f()}", "[1 | 2 + 3]", "(X = 1)", "(b ! 1)",
            "(catch 1)", "begin 1 end", "case 1 of 1 -> 1 end", "if true -> 1 end", "fun() -> 1 end", "fun a/0", "{[{1 == 2}]}", "1 andalso 2"};
        for (String ahead : no) {
            fault("a() -> " + ahead + "\n= 1.", 2, 2);
        }
        String[] yes = {"X", "_", "1", "- 1", "b", "\"s\"", "{}", "[]", "(X)", "((1))", "(- 1)", "{X,[Y|Z],{- 2}}", "[1,\"\",b|[]]"};
        for (String ahead : yes) {
            fine("a() -> " + ahead + " = 1.");
        }
        fault("a() -> X = b ! 1\n= 1.", 0, 0);
        fault("a() -> b ! {c()}\n= 1.", 2, 2);
        fine("a() -> b ! X = 1.");
        fault("a() -> X = 1 + 2\n= 3.", 2, 2);
    }

    private static void deepest(String ahead, String behind, int most) {
        fine("a() -> " + "(".repeat(most) + ahead + behind + ")".repeat(most) + ".");
        fault("a() -> " + "(".repeat(most + 1) + ahead + "\n" + behind + ")".repeat(most + 1) + ".", 3, 2);
    }

    private static void depth() {
        House.says("3 an E, P or BODY within 25 of these that are open (at its first token; a unit behind - or not, and what is behind = or !, are E's, too)");
        // The BODY, its E and what stands in k ( ) are k + 2 that are open.
        deepest("", "1", 23);
        deepest("{", "1}", 22);
        deepest("[", "1]", 22);
        deepest("[1|{", "2}]", 21);
        deepest("- ", "1", 22);
        deepest("not ", "1", 22);
        deepest("- not ", "1", 21);
        deepest("_ = ", "1", 22);
        deepest("b ! ", "1", 22);
        deepest("_ = b ! ", "1", 21);
        deepest("catch ", "1", 22);
        deepest("1 + 2 * (", "1)", 22);
        deepest("print(", "1)", 22);
        deepest("b()(", "1)", 22, "b() -> 1.");
        deepest("begin ", "1 end", 21);
        deepest("case 1 of 1 -> ", "1 end", 21);
        deepest("case {{", "1}} of _ -> 1 end", 20);
        deepest("case 1 of {{", "1}} -> 1 end", 20);
        deepest("case 1 of [1|[", "1]] -> 1 end", 20);
        deepest("case 1 of ((", "1)) -> 1 end", 20);
        deepest("case 1 of 1 when {{", "1}} -> 1 end", 20);
        deepest("if {{", "1}} -> 1 end", 20);
        deepest("if true -> ", "1 end", 21);
        deepest("receive {{", "1}} -> 1 end", 20);
        deepest("receive after {{", "1}} -> 1 end", 20);
        deepest("receive after 1 -> ", "1 end", 21);
        deepest("fun({{", "1}}) -> 1 end", 20);
        deepest("fun() when {{", "1}} -> 1 end", 20);
        deepest("fun() -> ", "1 end", 21);
        // - ahead of a number in a P opens nothing.
        fine("a(" + "{".repeat(24) + "- 1" + "}".repeat(24) + ") -> 1.");
        // Signs between units open nothing, nor do calls of calls.
        fine("a() -> " + "1 + ".repeat(700) + "1.");
        fine("a() -> 1" + "()".repeat(700) + ".");
        // What is closed is not open any more.
        String[] closed = {"- 1", "- - not 1", "not true", "_ = 1", "_ = _ = 1", "b ! 1", "catch 1", "{1}", "[1|2]", "(1)", "begin 1 end", "case 1 of {1} when {1} -> 1 end",
            "if {true} -> 1 end", "receive {1} -> 1 after 1 -> 1 end", "fun({1}) -> 1 end", "print({1})", "1({1})", "case 1 of {(- 1)} -> 1 end"};
        for (String one : closed) {
            fine("a() -> " + (one + ", ").repeat(30) + "1.");
        }
        fine("a({(1)},[{- 1}|[]],{(1)},[{- 1}|[]],{(1)},[{- 1}|[]]) -> 1.");
        fine("a() -> " + ("(".repeat(23) + "1" + ")".repeat(23) + ", ").repeat(20) + "1.");
    }

    private static void deepest(String ahead, String behind, int most, String more) {
        fine("a() -> " + "(".repeat(most) + ahead + behind + ")".repeat(most) + ". " + more);
        fault("a() -> " + "(".repeat(most + 1) + ahead + "\n" + behind + ")".repeat(most + 1) + ". " + more, 3, 2);
    }

    private static void theFirstFault() {
        House.says("FAULTS of the text: the first one, token by token, of one token the least");
        fault("a() -> " + "(".repeat(24) + "\n@", 1, 2);
        fault("a() -> " + "(".repeat(24) + "\n)", 2, 2);
        fault("a() -> " + "(".repeat(24) + "\n1 @", 3, 2);
        fault("a() -> )\n@", 2, 1);
        fault("a() -> @\n)", 1, 1);
        fault("a() -> 1\nabcdefghijklmnopq", 1, 2);
        fault("a() -> 1\n99999999999", 1, 2);
        House.says("2 it can't stand there (the end, too)");
        fault("a() -> 1", 2, 1);
        fault("a() -> (", 2, 1);
        fault("a", 2, 1);
        fault("a() -> 1. b() ->", 2, 1);
        House.says("With the line of the token (of the end: one more than there are 10s).");
        fault("\n\na(\n\n", 2, 5);
        fault("a() -> 1 % \n", 2, 2);
        fault("a() -> 1 % ", 2, 1);
        House.says("If there is none, those of the rules, that of the token that comes first, of one token the least");
        fault("a() -> X.\n\nb() -> )", 2, 3);
        fault("a() ->\nX,\nb(),\na.\na() -> 1.", 5, 2);
        fault("a() ->\nb(),\nX.", 6, 2);
        fault("a() -> 1.\na() -> X.", 4, 2);
        // S is worked out ahead of L, but its tokens stand behind it.
        fault("a() -> {\nX, f()} = 1.", 2, 2);
        fault("a() when\nY,\nself() -> 1.", 5, 2);
        fault("a() when\nself(),\nY -> 1.", 7, 2);
        fault("a() when\nX() -> 1.", 5, 2);
        fault("a() when\nb() -> 1.", 6, 2);
        House.says("8 (line 0, if there is no other)");
        String many = row("f", 0, 61, "() -> 1.", " ");
        fault(many, 8, 0);
        fault(many + "\nb() -> X.", 5, 2);
        fault(many + "\nb() -> c().", 6, 2);
        fault(many + "\nb() -> )", 2, 2);
    }

    private static void functionsThatClash() {
        House.says("4 a CLAUSE's ATOM, or how many PATTERNS it has, is not that of its FUNCTION (at the ATOM)");
        fault("a(1) -> 1;\nb(2) -> 1.", 4, 2);
        fault("a(1) -> 1;\na() -> 1.", 4, 2);
        fault("a() -> 1;\na(1) -> 1.", 4, 2);
        fault("a(1) -> 1; a(2) -> 1;\na(1,2) -> 1.", 4, 2);
        fine("a(1) -> 1; a(1) -> 1; a(_) -> 1.");
        House.says("a FUNCTION that is there already (at its first ATOM)");
        fault("a() -> 1.\nb() -> 1.\na() -> 1; a() -> 2.", 4, 3);
        fine("a() -> 1. a(_) -> 1. a(_,_) -> 1.");
        House.says("one that is called as something PREDEFINED is with so many ARGUMENTS, likewise");
        String[] names = {"self", "spawn", "link", "unlink", "watch", "unwatch", "trap", "exit", "throw", "error", "print", "ref", "name", "unname",
            "named", "alive", "now", "is_number", "is_atom", "is_list", "is_tuple", "is_fun", "is_process", "is_ref", "hd", "tl", "length", "element", "size"};
        int[] taken = {0, 1, 1, 1, 1, 1, 1, 1, 1, 1, 1, 0, 2, 1, 1, 1, 0, 1, 1, 1, 1, 1, 1, 1, 1, 1, 1, 2, 1};
        for (int i = 0; i < names.length; i++) {
            for (int count = 0; count <= 6; count++) {
                boolean there = count == taken[i] || names[i].equals("exit") && count == 2;
                String patterns = row("", 0, count, "", ",");
                fault("\n" + names[i] + "(" + patterns + ") -> 1.", there ? 4 : 0, there ? 2 : 0);
                fault("b() ->\n" + names[i] + "(" + patterns + ").", there ? 0 : 6, there ? 0 : 2);
            }
        }
    }

    private static void calls() {
        House.says("6 ATOM ( .. ) and fun ATOM / NUMBER that are no FUNCTION and nothing PREDEFINED with so many ARGUMENTS (fun: no FUNCTION), at the ATOM.");
        fine("a(_) -> a(1).");
        fault("a(_) ->\na().", 6, 2);
        fault("a(_) ->\na(1,2).", 6, 2);
        fine("a(_) -> fun a/1.");
        fault("a(_) -> fun\na\n/ 0.", 6, 2);
        fault("a(_) -> fun\na / 2.", 6, 2);
        fault("a(_) -> fun\na / 2147483647.", 6, 2);
        fault("a(_) -> fun\nself / 0.", 6, 2);
        fault("a(_) -> fun\nhd / 1.", 6, 2);
        fine("b() -> a(1), fun a/1. a(_) -> 1.");
        fault("a() -> {1,\nb(X)}.", 6, 2);
    }

    private static void guards() {
        House.says("7 in a GUARD: anything but numbers, ATOMS, NAMES, ( ), { }, [ ], signs (but ! = catch, ++ --), andalso, orelse, not, - and PREDEFINED tests");
        String[] places = {"a(X) when GUARD -> 1.", "a(X) -> case 1 of 1 when GUARD -> 1 end.", "a(X) -> receive 1 when GUARD -> 1 end.",
            "a(X) -> if GUARD -> 1 end.", "a(X) -> fun(1) when GUARD -> 1 end.", "a(X) -> if true, GUARD -> 1 end.", "a(X) -> if {[GUARD]} -> 1 end."};
        String[] allowed = {"1", "b", "X", "(X)", "{}", "{X,1}", "[]", "[X|b]", "1 == 2", "1 /= 2", "1 < 2", "1 =< 2", "1 > 2", "1 >= 2", "1 + 2", "1 - 2",
            "1 * 2", "1 div 2", "1 rem 2", "true andalso X", "true orelse X", "not X", "- X", "is_number(X)", "is_atom(X)", "is_list(X)", "is_tuple(X)",
            "is_fun(X)", "is_process(X)", "is_ref(X)", "hd(X)", "tl(X)", "length(X)", "element(1,X)", "size(X)"};
        String[] refused = {"\"s\"", "\"\"", "begin 1 end", "case 1 of 1 -> 1 end", "if true -> 1 end", "receive 1 -> 1 end", "fun() -> 1 end", "fun a/1",
            "a(1)", "X(1)", "1(1)", "(X)(1)", "hd(X)(1)", "self()", "spawn(X)", "link(X)", "unlink(X)", "watch(X)", "unwatch(X)", "trap(X)", "exit(X)",
            "exit(X,X)", "throw(X)", "error(X)", "print(X)", "ref()", "name(X,X)", "unname(X)", "named(X)", "alive(X)", "now()", "catch X"};
        String[] bySign = {"X\n! X", "X\n= X", "[]\n++ X", "[]\n-- X", "{Y,[_|Z]}\n= X"};
        for (String place : places) {
            for (String guard : allowed) {
                fine(place.replace("GUARD", guard));
            }
            for (String guard : refused) {
                fault(place.replace("GUARD", "\n" + guard), 7, 2);
            }
            for (String guard : bySign) {
                fault(place.replace("GUARD", guard), 7, 2);
            }
        }
        House.says("what stands ahead of a = there is looked at as a P, so it is 7 at the = alone");
        fault("a() when Y\n= 1 -> 1.", 7, 2);
        fault("a() when \"s\"\n= 1 -> 1.", 7, 2);
        fault("a() when {_,\"s\"}\n= Y -> 1.", 7, 2);
        House.says("in a GUARD, too, no NAME is");
        fault("a() when\nY -> 1.", 5, 2);
        fault("a() when\n_ -> 1.", 5, 2);
        fault("a(_) when\n_ == 1 -> 1.", 5, 2);
        fault("a(X) when X,\nY == 1, Y -> 1.", 5, 2);
        // The BODY is no GUARD any more.
        fine("a(X) when X -> \"s\", self(), [] ++ [], Y = 1, Y.");
    }

    private static void functionsAtomsTokens() {
        House.says("more than 60 FUNCTIONS");
        fine(row("f", 0, 60, "() -> 1.", " "));
        fault(row("f", 0, 61, "() -> 1.", " "), 8, 0);
        House.due("60 of them", House.of(row("f", 0, 60, "() -> 1.", " ")).house.count(1), 60);
        House.says("200 ATOMS (with the PREDEFINED ones)");
        String atoms = "a() -> {}" + ", " + row("b", 0, 177, "", ", ");
        House.due("200 of them", House.of(atoms + ".").house.count(2), 200);
        fine(atoms + ", true, stack, b0, a.");
        fault(atoms + ", c.", 8, 0);
        fault(atoms + ", self().", 8, 0);
        House.says("1,500 tokens");
        String text = "a() -> 1" + ",1".repeat(747) + ".";
        House.due("1,500 of them", House.of(text).house.count(0), 1500);
        fault("a() -> 1" + ",1".repeat(746) + ",-1.", 8, 0);
        fault("a() -> 1" + ",1".repeat(748) + ".", 8, 0);
        fine("a() -> \"" + "1 ".repeat(20) + "\"" + ",1".repeat(747) + ". % 1 2 3");
    }

    private static void namesAtOnePlace() {
        House.says("40 NAMES of a FUNCTION or fun at one place (those that are bound there)");
        String forty = row("A", 0, 40, " = 1", ", ");
        String half = row("A", 0, 20, " = 1", ", ");
        String other = row("B", 0, 20, " = 1", ", ");
        fine("a() -> " + forty + ".");
        fault("a() -> " + forty + ", B = 1.", 8, 0);
        fine("a() -> " + forty + ", _ = 1, A0 = 1.");
        fine("a(B) -> " + row("A", 0, 39, " = 1", ", ") + ".");
        fault("a(B) -> " + forty + ".", 8, 0);
        fault("a(B,C) -> " + row("A", 0, 39, " = 1", ", ") + ".", 8, 0);
        // Those of one CLAUSE or part are not bound in another.
        fine("a(1) -> " + forty + "; a(2) -> " + forty.replace('A', 'B') + ".");
        fine("a() -> case 1 of 1 -> " + forty + "; 2 -> " + forty.replace('A', 'B') + " end.");
        fine("a() -> " + half + ", case 1 of 1 -> " + other + "; 2 -> " + other.replace('B', 'C') + " end, " + other.replace('B', 'D') + ".");
        fault("a() -> " + half + ", case 1 of 1 -> " + other + ", C = 1 end.", 8, 0);
        fault("a() -> " + half + ", case 1 of C -> " + other + " end.", 8, 0);
        fault("a() -> " + half + ", if true -> " + other + ", C = 1 end.", 8, 0);
        fault("a() -> " + half + ", receive C -> " + other + " end.", 8, 0);
        fault("a() -> " + half + ", receive after 1 -> " + other + ", C = 1 end.", 8, 0);
        fault("a() -> " + half + ", catch begin " + other + ", C = 1 end.", 8, 0);
        fine("a() -> " + half + ", begin " + other + " end, begin " + other + " end.");
        fine("a() -> " + half + ", (catch begin " + other + " end), C = 1.");
        // A fun has its own: those that it holds, and those that it binds.
        fine("a() -> " + forty + ", fun(B) -> " + row("C", 0, 39, " = B", ", ") + " end.");
        fault("a() -> " + forty + ", fun(B) -> " + row("C", 0, 40, " = B", ", ") + " end.", 8, 0);
        fine("a() -> " + forty + ", fun() -> " + row("A", 0, 40, "", ", ") + " end.");
        fault("a() -> " + forty + ", fun(B) -> " + row("A", 0, 40, "", ", ") + " end.", 8, 0);
        fine("a() -> " + forty + ", fun(A0) -> " + row("A", 0, 40, "", ", ") + " end.");
        // Each fun is looked at by itself.
        fine("a() -> " + half + ", fun() -> " + forty.replace('A', 'B') + " end, fun() -> " + row("A", 0, 20, "", ", ") + " end, " + other + ".");
        fine("a() -> " + half + ", fun() -> " + other + ", fun() -> " + forty.replace('A', 'C') + " end, D = 1 end.");
        fine("a() -> fun() -> " + half + " end, fun() -> " + forty + " end. b() -> " + forty + ".");
    }

    private static void whereNamesEnd() {
        House.says("one is bound by the P in which it stands first, from there on: of a CLAUSE or fun to its end");
        fine("a(X) when X -> X, X.");
        fault("a(X) -> X;\na(_) -> X.", 5, 2);
        fault("a(X) -> X. b() ->\nX.", 5, 2);
        fault("a() -> (fun(X) -> X end)(\nX).", 5, 2);
        House.says("of CASES' and CHOICES' parts to the end of that part");
        fault("a() -> case 1 of X -> X; 2 ->\nX end.", 5, 2);
        fault("a() -> case 1 of X -> X end,\nX.", 5, 2);
        fault("a() -> if true -> X = 1, X; true ->\nX end.", 5, 2);
        fault("a() -> receive X -> X; 2 ->\nX end.", 5, 2);
        fault("a() -> receive X -> X after 1 ->\nX end.", 5, 2);
        House.says("of a BODY's E to the end of the BODY (and of those parts)");
        fine("a() -> X = 1, case X of X -> X; Y -> {X,Y} end, X.");
        fault("a() -> begin X = 1, X end,\nX.", 5, 2);
        fault("a() -> case 1 of 1 -> X = 1 end,\nX.", 5, 2);
        fault("a() -> receive after 1 -> X = 1, X end,\nX.", 5, 2);
        House.says("Where it is bound already a P compares. _ is never bound.");
        House.value("catch begin X = 1, X = 2 end", "{error,{badmatch,2}}");
        House.value("catch begin _ = 1, _ = 2 end", "2");
        House.value("case {1,2} of {_,_} -> both end", "both");
        fault("a(_) ->\n_.", 5, 2);
        House.says("What ARGUMENTS and parts of an E bind is bound in the later ones");
        fine("b(X,Y) -> {X,Y}. a() -> b(X = 1, X), X.");
        fault("b(X,Y) -> {X,Y}. a() -> b(\nX, X = 1).", 5, 2);
        fine("a() -> {X = 1, X}, [Y = X | Y], (Z = 1) + Z, (U = b) ! U, {U,X,Y,Z}.");
        fine("a() -> case X = 1 of _ when X -> X end, X.");
        House.says("but what the second one of andalso, orelse, or the E of catch or after binds is bound in it alone");
        fault("a() -> true andalso (X = true),\nX.", 5, 2);
        fault("a() -> true orelse (X = true),\nX.", 5, 2);
        fault("a() -> true andalso (X = true) andalso\nX.", 5, 2);
        fault("a() -> true andalso (X = true) orelse\nX.", 5, 2);
        fine("a() -> (X = true) andalso X orelse X, X.");
        fine("a() -> (X = true) orelse X, X.");
        fault("a() -> {catch X = 1,\nX}.", 5, 2);
        fault("a() -> receive after X = 1 ->\nX end.", 5, 2);
        fault("a() -> receive\n1 -> X after X = 1 -> 2 end.", 5, 2);
        fault("a() -> receive after X = 1 -> 2 end,\nX.", 5, 2);
    }

    private static void hiddenAndHeld() {
        House.says("A fun's PATTERNS bind anew: in these NAMES that are bound around are hidden");
        House.prints("X = 1, F = fun(X) -> X end, print(F(2))", "2");
        House.prints("X = 1, F = fun(Y,Y) -> {X,Y} end, print({F(2,2), catch F(2,3)})", "{{1,2},{error,function_clause}}");
        House.prints("X = 1, F = fun({X,[X]}) -> X end, print({F({2,[2]}), catch F({1,[2]})})", "{2,{error,function_clause}}");
        House.prints("X = 1, F = fun(X) -> fun() -> X end end, print({F(2)(),X})", "{2,1}");
        House.says("in its BODY others of around mean what they are as the fun is made");
        House.prints("X = 1, F = fun() -> X end, print(F())", "1");
        House.prints("X = 1, F = fun(Y) when Y == X -> same; (_) -> other end".replace("; (_) -> other", "") + ", print({F(1), catch F(2)})",
            "{same,{error,function_clause}}");
        House.prints("X = 1, F = fun(Y) -> X = Y end, print({F(1), catch F(2)})", "{1,{error,{badmatch,2}}}");
        House.prints("X = 1, F = fun(Y) -> case Y of X -> same; _ -> other end end, print({F(1),F(2)})", "{same,other}");
        fault("a() -> fun() -> Y = 1 end,\nY.", 5, 2);
        fine("a() -> F = fun() -> Y = 1 end, Y = 2, {F,Y}.");
    }
}
