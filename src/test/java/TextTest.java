/** Promises 1 to 7: a new object, feed, back, read, count, function, letter; faults 1 to 3 and 8. */
public final class TextTest {
    public static void main(String[] args) {
        aNewObject();
        feedAndBack();
        readAndCount();
        functionAndLetter();
        tokens();
        standing();
        depth();
        limits();
        House.close();
    }

    private static void aNewObject() {
        Counted x = new Counted();
        for (int what = 0; what <= 8; what++) {
            House.due("count " + what + " of a new object", x.count(what), 0);
        }
        House.due("count(9)", x.count(9), MailHouse.NONE);
        House.due("count(-1)", x.count(-1), MailHouse.NONE);
        House.due("function(0, 0)", x.function(0, 0), MailHouse.NONE);
        House.due("letter(0, 0)", x.letter(0, 0), MailHouse.NONE);
        House.due("process(0, 0)", x.process(0, 0), MailHouse.NONE);
        House.due("frame(0, 0, 0)", x.frame(0, 0, 0), MailHouse.NONE);
        House.due("link(0, 0)", x.link(0, 0), MailHouse.NONE);
        House.due("show(0, 0, 0)", x.show(0, 0, 0), MailHouse.NONE);
        House.due("shown(0)", x.shown(0), MailHouse.NONE);
        House.due("printed(0, 0)", x.printed(0, 0), MailHouse.NONE);
        House.due("read() of an empty tape", x.read(), 18);
    }

    private static void feedAndBack() {
        Counted x = new Counted();
        House.due("back(1)", x.back(1), MailHouse.NONE);
        House.due("back(0)", x.back(0), 0);
        for (int i = 1; i <= 200; i++) {
            House.due("feed " + i, x.feed(1, 2, 3, 4, 5), 20 * i);
        }
        House.due("feed beyond 4000", x.feed(1, 2, 3, 4, 5), MailHouse.NONE);
        House.due("count(3)", x.count(3), 4000);
        House.due("back(-1)", x.back(-1), MailHouse.NONE);
        House.due("back(4001)", x.back(4001), MailHouse.NONE);
        House.due("back(19)", x.back(19), 3981);
        House.due("feed for 4001", x.feed(1, 2, 3, 4, 5), MailHouse.NONE);
        House.due("back(1)", x.back(1), 3980);
        House.due("feed for 4000", x.feed(1, 2, 3, 4, 5), 4000);
        House.due("back(2147483647)", x.back(2147483647), MailHouse.NONE);
        House.due("back(4000)", x.back(4000), 0);
        House y = new House();
        // The highest byte first: "a()->1." and blanks
        House.due("feed", y.house.feed(0x6128292d, 0x3e312e20, 0x20202020, 0x20202020, 0x20202020), 20);
        House.due("read", y.house.read(), 0);
        House.due("letter", y.atom(22), "a");
    }

    private static void readAndCount() {
        House x = House.of("main() -> print(sum([1,2])). % to the end\nsum([]) -> 0;\nsum([H|T]) -> H + sum(T). tail() -> \"x\".");
        House.due("tokens", x.house.count(0), 46);
        House.due("functions", x.house.count(1), 3);
        House.due("atoms", x.house.count(2), 26);
        House.due("the tape is empty", x.house.count(3), 0);
        for (int what = 4; what <= 8; what++) {
            House.due("count " + what + " before begin", x.house.count(what), 0);
        }
        x.house.begin(0);
        House.due("processes", x.house.count(4), 1);
        House.due("the calls of the run", x.house.go(0, 500), 3);
        House.due("calls", x.house.count(6), 3);
        House.due("lines", x.house.count(5), 1);
        x.feed("a() -> B.");
        House.due("a faulty text", x.house.read(), 5 + 16);
        for (int what = 0; what <= 8; what++) {
            House.due("count " + what + " behind a fault", x.house.count(what), 0);
        }
        House.due("no output", x.house.printed(0, 0), MailHouse.NONE);
        House.due("no function", x.house.function(0, 0), MailHouse.NONE);
        House.due("no letters", x.house.letter(0, 0), MailHouse.NONE);
        House.due("begin without a program", x.thrownByBegin(0), "IllegalStateException");
        x.feed("a() -> 1.");
        House.due("a text again", x.house.read(), 0);
        House.due("atoms", x.house.count(2), 23);
    }

    private static void functionAndLetter() {
        House x = House.of("one(A,B) -> A + B;\none(_,_) -> 1.\n\n two() -> error. three(_,_,_,_,_,_) -> ok.");
        House.due("atom of 0", x.atom(x.house.function(0, 0)), "one");
        House.due("arity of 0", x.house.function(0, 1), 2);
        House.due("clauses of 0", x.house.function(0, 2), 2);
        House.due("line of 0", x.house.function(0, 3), 1);
        House.due("atom of 1", x.house.function(1, 0), 23);
        House.due("arity of 1", x.house.function(1, 1), 0);
        House.due("line of 1", x.house.function(1, 3), 4);
        House.due("arity of 2", x.house.function(2, 1), 6);
        House.due("what 4", x.house.function(0, 4), MailHouse.NONE);
        House.due("what -1", x.house.function(0, -1), MailHouse.NONE);
        House.due("function 3", x.house.function(3, 0), MailHouse.NONE);
        House.due("function -1", x.house.function(-1, 0), MailHouse.NONE);
        String[] first = {"true", "false", "ok", "none", "normal", "kill", "killed", "error", "exit", "down", "infinity",
            "badarg", "badarith", "badmatch", "function_clause", "case_clause", "if_clause", "badfun", "badarity",
            "nocatch", "heap", "stack", "one", "two", "three"};
        for (int a = 0; a < first.length; a++) {
            House.due("atom " + a, x.atom(a), first[a]);
        }
        House.due("atoms", x.house.count(2), first.length);
        House.due("letter -1", x.house.letter(0, -1), MailHouse.NONE);
        House.due("letter of -1", x.house.letter(-1, 0), MailHouse.NONE);
        House.due("letter behind", x.house.letter(0, 4), MailHouse.NONE);
        House.due("letter of no atom", x.house.letter(25, 0), MailHouse.NONE);
    }

    private static void tokens() {
        House.faultDue("a() -> abcdefghijklmnop.", 0, 0);
        House.faultDue("a() ->\n abcdefghijklmnopq.", 1, 2);
        House.faultDue("a(Abcdefghijklmnop) -> 1.", 0, 0);
        House.faultDue("a(Abcdefghijklmnopq) -> 1.", 1, 1);
        House.faultDue("a() -> 2147483647.", 0, 0);
        House.faultDue("a() -> 0000000000002147483647.", 0, 0);
        House.faultDue("a() -> 2147483648.", 1, 1);
        House.faultDue("a() -> 99999999999999999999999999.", 1, 1);
        House.faultDue("a() -> 12b.", 1, 1);
        House.faultDue("a() -> 12_.", 1, 1);
        House.faultDue("a() -> \"" + "x".repeat(40) + "\".", 0, 0);
        House.faultDue("a() -> \"" + "x".repeat(41) + "\".", 1, 1);
        House.faultDue("a() -> \"x\ny\".", 1, 1);
        House.faultDue("a() -> \n\n\"x", 1, 3);
        House.faultDue("a() -> \"\t\".", 1, 1);
        House.faultDue("a() -> \"~\".", 0, 0);
        House.faultDue("a() -> \"\u00e4\".", 1, 1);
        House.faultDue("a() -> x@y.", 1, 1);
        House.faultDue("a() -> \u00e4.", 1, 1);
        House.faultDue("a() -> 1.\0", 1, 1);
        House.faultDue("a() -> 1.\r", 1, 1);
        House.faultDue("a() -> 1. % @ \"", 0, 0);
        House.faultDue("a() -> \t1 % @\n.% ", 0, 0);
        House.faultDue("a()->1--1--[].", 0, 0);
        House.faultDue("a()->1=<2.", 0, 0);
        House.faultDue("a()->1<=2.", 2, 1);
        House.faultDue("a()-->1.", 2, 1);
        // Of one token the least; the first token goes.
        House.faultDue("a() -> ) @", 2, 1);
        House.faultDue("a() -> @ )", 1, 1);
        House.faultDue("a() -> 1 abcdefghijklmnopq", 1, 1);
    }

    private static void standing() {
        House.faultDue("", 2, 1);
        House.faultDue("\n\n% nothing\n", 2, 4);
        House.faultDue("a() -> 1", 2, 1);
        House.faultDue("a() -> 1\n", 2, 2);
        House.faultDue("a() -> 1.\nB", 2, 2);
        House.faultDue("after() -> 1.", 2, 1);
        House.faultDue("a() -> 1;\n.", 2, 2);
        House.faultDue("a(1,2,3,4,5,6) -> 1.", 0, 0);
        House.faultDue("a(1,2,3,4,5,6\n,7) -> 1.", 2, 2);
        House.faultDue("a() -> {1,2,3,4,5,6,7,8}.", 0, 0);
        House.faultDue("a() -> {1,2,3,4,5,6,7,8\n,9}.", 2, 2);
        House.faultDue("a() -> [1,2,3,4,5,6,7,8|9].", 0, 0);
        House.faultDue("a() -> [1,2,3,4,5,6,7,8\n,9].", 2, 2);
        House.faultDue("a() -> print(1,2,3,4,5,6\n,7).", 2, 2);
        House.faultDue("a() -> [|1].", 2, 1);
        House.faultDue("a() -> [1|2|3].", 2, 1);
        House.faultDue("a() -> {}.", 0, 0);
        House.faultDue("a() -> [].", 0, 0);
        House.faultDue("a() -> ().", 2, 1);
        House.faultDue("a() -> (1)(2)(3).", 0, 0);
        House.faultDue("a() -> 1 == 2\n == 3.", 2, 2);
        House.faultDue("a() -> (1 == 2) == 3.", 0, 0);
        House.faultDue("a() -> 1 < 2 andalso 2 < 3 orelse 4 < 5.", 0, 0);
        House.faultDue("a() -> 1 + 2\n < 3 * 4 < 5.", 2, 2);
        House.faultDue("a() -> 1 + catch 2.", 2, 1);
        House.faultDue("a() -> X = catch 2.", 2, 1);
        House.faultDue("a() -> X = (catch 2).", 0, 0);
        House.faultDue("a() -> - not - 1.", 0, 0);
        House.faultDue("a() -> - catch 1.", 2, 1);
        House.faultDue("a() -> 1 + 2\n= 3.", 2, 2);
        House.faultDue("a() -> -1 = 3.", 0, 0);
        House.faultDue("a() -> -(1)\n= 3.", 2, 2);
        House.faultDue("a() -> - -1\n= 3.", 2, 2);
        House.faultDue("a() -> (-1) = 3.", 0, 0);
        House.faultDue("a() -> {X, [Y|_], \"s\", (z)} = 3.", 0, 0);
        House.faultDue("a() -> {X = 1}\n= 3.", 2, 2);
        House.faultDue("a() -> {f()}\n= 3.", 2, 2);
        House.faultDue("a() -> [1|f()]\n= 3.", 2, 2);
        House.faultDue("a() -> X = Y = 1, X + Y.", 0, 0);
        House.faultDue("a() -> b ! X = 1, X.", 0, 0);
        House.faultDue("a(X = 1) -> 1.", 2, 1);
        House.faultDue("a(-X) -> 1.", 2, 1);
        House.faultDue("a(- 1) -> 1.", 0, 0);
        House.faultDue("a(f()) -> 1.", 2, 1);
        House.faultDue("a() -> receive end.", 2, 1);
        House.faultDue("a() -> receive after 1 -> 2 end.", 0, 0);
        House.faultDue("a() -> receive X -> X after 1 -> 2 end.", 0, 0);
        House.faultDue("a() -> receive X -> X; after 1 -> 2 end.", 2, 1);
        House.faultDue("a() -> receive after 1 -> 2; X -> 1 end.", 2, 1);
        House.faultDue("a() -> case 1 of end.", 2, 1);
        House.faultDue("a() -> if end.", 2, 1);
        House.faultDue("a() -> if 1 == 1, true -> 1; true -> 2 end.", 0, 0);
        House.faultDue("a() -> begin end.", 2, 1);
        House.faultDue("a() -> begin 1, 2 end.", 0, 0);
        House.faultDue("a() -> fun a/0.", 0, 0);
        House.faultDue("a() -> fun a.", 2, 1);
        House.faultDue("a() -> fun X/0.", 2, 1);
        House.faultDue("a() -> fun a/X.", 2, 1);
        House.faultDue("a() -> fun() -> 1.", 2, 1);
        House.faultDue("a() -> fun() -> 1; () -> 2 end.", 2, 1);
        House.faultDue("a() -> 1 when true.", 2, 1);
        House.faultDue("a() when true, 1 == 1 -> 1.", 0, 0);
        House.faultDue("a() when -> 1.", 2, 1);
        House.faultDue("a() -> 1,.", 2, 1);
        House.faultDue("a() -> 1 / 2.", 2, 1);
    }

    /** Around an E of the BODY stand that E and the BODY: 23 more may open. */
    private static void depth() {
        House.faultDue("a() -> " + "(".repeat(23) + "1" + ")".repeat(23) + ".", 0, 0);
        House.faultDue("a() -> " + "(".repeat(24) + "\n1" + ")".repeat(24) + ".", 3, 2);
        House.faultDue("a() -> " + "(".repeat(24) + "\n)", 2, 2);
        House.faultDue("a() -> " + "(".repeat(24) + "\n@", 1, 2);
        House.faultDue("a() -> " + "{".repeat(24) + "}".repeat(24) + ".", 0, 0);
        House.faultDue("a() -> " + "- ".repeat(23) + "1.", 0, 0);
        House.faultDue("a() -> " + "- ".repeat(24) + "\n1.", 3, 2);
        House.faultDue("a() -> " + "not ".repeat(24) + "\n1.", 3, 2);
        House.faultDue("a() -> " + "catch ".repeat(23) + "1.", 0, 0);
        House.faultDue("a() -> " + "catch ".repeat(24) + "\n1.", 3, 2);
        House.faultDue("a() -> " + "_ = ".repeat(23) + "1.", 0, 0);
        House.faultDue("a() -> " + "_ = ".repeat(24) + "\n1.", 3, 2);
        House.faultDue("a() -> " + "b ! ".repeat(24) + "\n1.", 3, 2);
        House.faultDue("a(" + "{".repeat(24) + "1" + "}".repeat(24) + ") -> 1.", 0, 0);
        House.faultDue("a(" + "{".repeat(25) + "\n1" + "}".repeat(25) + ") -> 1.", 3, 2);
        House.faultDue("a() when " + "(".repeat(24) + "1" + ")".repeat(24) + " -> 1.", 0, 0);
        House.faultDue("a() when " + "(".repeat(25) + "\n1" + ")".repeat(25) + " -> 1.", 3, 2);
        House.faultDue("a() -> " + "begin ".repeat(11) + "1" + " end".repeat(11) + ".", 0, 0);
        House.faultDue("a() -> " + "begin ".repeat(12) + "\n1" + " end".repeat(12) + ".", 3, 2);
        House.faultDue("a() -> " + "fun() -> ".repeat(11) + "1" + " end".repeat(11) + ".", 0, 0);
        House.faultDue("a() -> " + "1 + ".repeat(600) + "1.", 0, 0);
        House.faultDue("a() -> " + "[] ++ ".repeat(490) + "[].", 0, 0);
        House.faultDue("a() -> a" + "()".repeat(600) + ".", 0, 0);
    }

    private static void limits() {
        StringBuilder functions = new StringBuilder();
        for (int i = 0; i < 60; i++) {
            functions.append("f").append(i).append("() -> 1. ");
        }
        House.faultDue(functions.toString(), 0, 0);
        House.faultDue(functions + "g() -> 1.", 8, 0);
        House.faultDue(functions + "\ng() -> X.", 5, 2);
        StringBuilder atoms = new StringBuilder("f() -> ok");
        for (int i = 0; i < 177; i++) {
            atoms.append(", a").append(i);
        }
        House.faultDue(atoms + ".", 0, 0);
        House.faultDue(atoms + ", b.", 8, 0);
        // a ( ) -> 1 .  are six tokens, each ", 1" two more
        House.faultDue("a() -> 1" + ",1".repeat(747) + ".", 0, 0);
        House.faultDue("a() -> 1" + ",1".repeat(747) + ",-1.", 8, 0);
        House.faultDue("a() -> " + "1,".repeat(1900) + "1.", 8, 0);
        House.faultDue("a() -> " + "1,".repeat(1900) + "X.", 5, 1);
        StringBuilder bound = new StringBuilder("a() -> A0 = 1");
        for (int i = 1; i < 40; i++) {
            bound.append(", A").append(i).append(" = 1");
        }
        House.faultDue(bound + ".", 0, 0);
        House.faultDue(bound + ", B = 1.", 8, 0);
        House.faultDue(bound + ", begin B = 1 end.", 8, 0);
        House.faultDue(bound + ", fun(B) -> B end.", 0, 0);
        StringBuilder held = new StringBuilder(bound).append(", fun(B) -> B");
        for (int i = 0; i < 39; i++) {
            held.append(" + A").append(i);
        }
        House.faultDue(held + " end.", 0, 0);
        House.faultDue(held + " + A39 end.", 8, 0);
        House.faultDue(held + ", C = 1 end.", 8, 0);
    }
}
