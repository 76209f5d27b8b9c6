/** The section PROCESS of the document: each sentence that names an edge, looked at on both sides of it. */
public final class EdgesOfProcessTest {
    /** mk(N, A): a list of N parts ahead of A, which has 2 * N cells; nothing else is made. */
    private static final String MAKE = " mk(0,A) -> A; mk(N,A) -> mk(N - 1,[N|A]).";
    /** Waits, whatever comes. */
    private static final String IDLE = " idle() -> receive stop -> 1 end.";

    public static void main(String[] args) {
        theBox();
        fromTheLeft();
        arithmetic();
        frames();
        lastOnes();
        guards();
        andalsoOrelse();
        whatIsTried();
        wrong();
        catches();
        joining();
        without();
        sending();
        printing();
        receiving();
        after();
        House.close();
    }

    private static House begun(String text) {
        House x = House.of(text);
        x.house.begin(0);
        return x;
    }

    /** The ATOM stop. */
    private static int stop(House x) {
        int a = 22;
        while (a < 200 && !x.atom(a).equals("stop")) {
            a++;
        }
        return a;
    }

    private static void theBox() {
        House.says("a BOX of messages (30 at most: what more comes is lost)");
        House x = begun("main() -> fill(31), receive stop -> 1 end. fill(0) -> ok; fill(N) -> self() ! {N}, fill(N - 1).");
        x.house.go(0, 29);
        House.due("29 of them", x.house.process(0, 4), 29);
        x.house.go(0, 1);
        House.due("30 of them", x.house.process(0, 4), 30);
        x.house.go(0, 1);
        House.due("one more is lost", x.house.process(0, 4), 30);
        House.due("the last of the box", x.show(0, 0, 29), "{2}");
        House.due("none behind it", x.show(0, 0, 30), null);
        // 31 TUPLES of 2 cells were made, and 30 copies of them.
        House.due("what is lost needs no cells", x.house.process(0, 2), 31 * 2 + 30 * 2);
        x.house.send(0, 2, 1);
        House.due("from outside, too", x.house.process(0, 4), 30);
        House.due("without cells", x.house.process(0, 2), 31 * 2 + 30 * 2);
        House y = begun("main() -> trap(true), P = spawn(fun() -> 1 end), link(P), watch(P), fill(29), receive stop -> 1 end. fill(0) -> ok; fill(N) -> self() ! N, fill(N - 1).");
        y.house.go(0, 500);
        y.house.go(1, 0);
        House.due("a SIGNAL's message has room, that of a WATCH has none", y.show(0, 0, 29), "{exit,<1>,normal}");
        House.due("30", y.house.process(0, 4), 30);
        // The FUN has 2 cells, {exit, P, R} 4.
        House.due("what is lost of those needs no cells", y.house.process(0, 2), 6);
        House.due("its WATCH has gone all the same", y.house.process(0, 6), 0);
        House z = begun("main() -> fill(30), receive 15 -> ok end, self() ! new, receive stop -> 1 end. fill(0) -> ok; fill(N) -> self() ! N, fill(N - 1).");
        z.house.go(0, 500);
        House.due("one that was taken makes room", z.show(0, 0, 29), "new");
        House.due("those behind it came up", z.show(0, 0, 15), "14");
    }

    private static void fromTheLeft() {
        House.says("All is worked out from the left to the right: ARGUMENTS, both ways of a sign, of { } and [ ] each part, of P ! T both, of calls of a PRIMARY that first; of L = S that S");
        String text = "main() -> BODY. p(X) -> print(X), X. f(_,_) -> 1. g() -> fun(_,_) -> 1 end.";
        String[] bodies = {"f(p(1),p(2))", "p(1) + p(2)", "p(1) == p(2)", "p([]) ++ p([])", "{p(1),p(2)}", "[p(1),p(2)|p(3)]", "p(self()) ! p(2)",
            "p(g())(p(2),p(3))", "f({p(1)},[p(2)])", "p(true) andalso p(2)"};
        String[] dues = {"1/2", "1/2", "1/2", "[]/[]", "1/2", "1/2/3", "<0>/2", "fun/2/3", "1/2", "true/2"};
        for (int i = 0; i < bodies.length; i++) {
            House x = House.of(text.replace("BODY", bodies[i]));
            x.run(0);
            House.due(bodies[i], x.output(), dues[i]);
        }
        House.prints("{A,B} = {2, B = 1}, print({A,B})", "{2,1}");
        House.value("catch ({X,1} = {2,X = 3})", "{error,{badmatch,{2,3}}}");
        House.says("All PAIRS of a [ ] are made behind all its parts.");
        House x = House.of("main() -> [{1},f(),{2}]. f() -> receive stop -> 1 end.");
        x.run(0);
        House.due("{1} alone is made", x.house.process(0, 2), 2);
    }

    private static void arithmetic() {
        House.says("div is cut towards 0, and A rem B is A - B * (A div B).");
        int[][] pairs = {{7, 2}, {-7, 2}, {7, -2}, {-7, -2}, {6, 3}, {-6, 3}, {0, 5}, {1, 2147483647}, {2147483647, -1}, {-2147483647, 2}, {3, 7}, {-3, 7}};
        for (int[] pair : pairs) {
            House.value("{" + pair[0] + " div " + pair[1] + "," + pair[0] + " rem " + pair[1] + "}", "{" + pair[0] / pair[1] + "," + pair[0] % pair[1] + "}");
        }
        House.says("badarith (+ - * div rem - with what is no number, or what is no int, div rem by 0)");
        String least = "(-2147483647 - 1)";
        String[] fine = {"2147483646 + 1", least + " + 0", "-2147483647 - 1", "46340 * 46340", "65536 * -32768", least + " div 1", least + " rem -1", "- -2147483647", "0 div 5"};
        String[] values = {"2147483647", "-2147483648", "-2147483648", "2147395600", "-2147483648", "-2147483648", "0", "2147483647", "0"};
        for (int i = 0; i < fine.length; i++) {
            House.value(fine[i], values[i]);
        }
        String[] bad = {"2147483647 + 1", least + " + -1", least + " - 1", "2147483647 - -1", "46341 * 46341", "65536 * 32768", "65536 * 65536", least + " * -1",
            least + " div -1", "- " + least, "1 div 0", "0 div 0", "1 rem 0", "0 rem 0", least + " rem 0", "- a", "- []", "- {}", "- self()", "1 + a", "a + 1", "1 - []",
            "[] - 1", "1 * {}", "{} * 1", "1 div a", "a div 1", "1 rem a", "a rem 1", "a div 0", "ref() + 1", "\"a\" + 1"};
        for (String one : bad) {
            House.value("catch " + one, "{error,badarith}");
        }
    }

    private static void frames() {
        House.says("then its FRAME comes in place of that one; otherwise a new one: 60 at most.");
        House x = begun("main() -> 1 + f(2). f(60) -> receive stop -> 1 end; f(N) -> 1 + f(N + 1).");
        House.due("59 CALLS", x.house.go(0, 500), 59);
        House.due("60 FRAMES", x.house.process(0, 1), 60);
        House.due("it waits", x.house.process(0, 0), 1);
        House.due("FRAME 59", x.house.frame(0, 59, 0), 0);
        House.due("FRAME 60", x.house.frame(0, 60, 0), MailHouse.NONE);
        // All of them may have as many terms that wait, NAMES and catches as they need.
        House wide = begun("main() -> 1 + f(2). f(60) -> receive stop -> 0 end; f(N) -> {1,2,3,4,5,6,7,[1,2,3,4,5,6,7|f(N + 1)]}.");
        wide.house.go(0, 500);
        House.due("14 wait in FRAME 1", wide.house.frame(0, 1, 3), 14);
        House.due("14 wait in FRAME 58", wide.house.frame(0, 58, 3), 14);
        House.due("1 waits in FRAME 59", wide.house.frame(0, 59, 3), 1);
        House named = begun("main() -> print(f(2)). f(60) -> receive stop -> 0 end; f(A) -> {B,C,D,E} = {A,A,A,A}, F = catch 1 + catch f(A + 1), B + C + D + E + F - A * 4.".replace("= catch 1 + catch f(A + 1)", "= (catch 1 + (catch f(A + 1)))"));
        named.house.go(0, 500);
        House.due("5 NAMES in FRAME 1", named.house.frame(0, 1, 2), 5);
        House.due("5 NAMES in FRAME 58", named.house.frame(0, 58, 2), 5);
        named.house.send(0, 1, stop(named));
        named.house.go(0, 500);
        House.due("each of them added 1", named.output(), "58");
        House.says("More than 60 FRAMES: ENDS: stack (that CALL does not count; go() stops ahead of it like ahead of others).");
        House y = begun("main() -> 1 + f(2). f(N) -> 1 +\nf(N + 1).");
        House.due("59 CALLS", y.house.go(0, 59), 59);
        House.due("it stopped ahead of the next one", y.house.process(0, 0), 0);
        House.due("whose line is told", y.house.process(0, 11), 2);
        House.due("again, with no CALL", y.house.go(0, 0), 0);
        House.due("still there", y.house.process(0, 0), 0);
        House.due("that CALL does not count", y.house.go(0, 1), 0);
        House.due("stack", y.reason(0), "stack");
        House.due("its CALLS", y.house.process(0, 9), 59);
        House.due("CALLS in all", y.house.count(6), 59);
        House last = begun("main() -> 1 + f(2). f(60) -> f(0); f(0) -> f(-1); f(-1) -> receive stop -> 1 end; f(N) -> 1 + f(N + 1).");
        last.house.go(0, 500);
        House.due("the LAST ones need none more", last.house.process(0, 1), 60);
        House.due("it goes on", last.house.process(0, 0), 1);
        House fun = begun("main() -> 1 + f(2). f(60) -> 1 + (fun() -> 1 end)(); f(N) -> 1 + f(N + 1).");
        fun.house.go(0, 500);
        House.due("of a FUN, too", fun.reason(0), "stack");
        House predefined = begun("main() -> 1 + f(2). f(60) -> length([1,2]) + hd([1]); f(N) -> 1 + f(N + 1).");
        predefined.house.go(0, 500);
        House.due("PREDEFINED ones need no FRAME", predefined.reason(0), "normal");
        House bad = begun("main() -> print(catch (1 + f(2))). f(60) -> 1 + (fun() -> 1 end)(1); f(N) -> 1 + f(N + 1).");
        bad.house.go(0, 500);
        House.due("a call that is badarity is no CALL", bad.output(), "{error,{badarity,1}}");
    }

    private static void lastOnes() {
        House.says("It is the LAST of its FRAME if nothing of the FRAME is done behind it: it stands last in the BODY of a CLAUSE or fun, or last in a BODY of begin, or in a CASE's, CHOICE's or after's BODY, of what stands so itself (also in ( ); what is behind andalso, orelse, = or in catch does not stand so)");
        String[] last = {"g()", "1, g()", "((g()))", "begin g() end", "begin 1, begin 2, g() end end", "case 1 of 2 -> 1; 1 -> g(); _ -> 2 end", "if false -> 1; true -> 2, g() end",
            "receive after 0 -> g() end", "receive 1 -> 2 after 0 -> 3, (g()) end", "self() ! 7, receive 7 -> g() after 0 -> 1 end", "(fun() -> g() end)()", "(fun g/0)()", "h()()", "i()(1)",
            "X = 1, case X of Y when Y == X -> begin if true -> (g()) end end end"};
        for (String body : last) {
            framesOf(body, 1);
        }
        String[] others = {"g(), 1", "begin g() end, 1", "begin g(), 1 end", "1 + g()", "g() + 1", "- g()", "not g()", "1 == g()", "[] ++ g()", "[] -- g()", "true andalso g()", "false orelse g()", "g() andalso 1",
            "X = g()", "(X = g())", "catch g()", "(catch g())", "catch begin g() end", "catch case 1 of _ -> g() end", "{g()}", "[g()]", "[1|g()]", "self() ! g()", "g() ! 1", "print(g())", "k(g())",
            "case g() of _ -> 1 end", "receive after g() -> 1 end", "g()()", "(g())(1)", "(fun(_) -> 1 end)(g())", "case 1 of _ -> g() end, 1", "if true -> g() end + 1", "X = begin g() end"};
        for (String body : others) {
            framesOf(body, 2);
        }
        House.says("(A PROCESS's first FRAME is there as it begins, of a FUN with its HELD ones; its CLAUSES are tried when it goes on first.)");
        House x = begun("main() -> X = {a}, Y = 2, spawn(fun() when Y > X -> {X,Y} end), spawn(fun() when Y < X -> idle() end), receive stop -> 1 end." + IDLE);
        House.due("its FRAME", x.house.process(0, 1), 1);
        House.due("no line yet", x.house.frame(0, 0, 1), 0);
        x.house.go(0, 0);
        House.due("the FRAME of a FUN", x.house.process(1, 1), 1);
        House.due("no FUNCTION", x.house.frame(1, 0, 0), MailHouse.NONE);
        House.due("no line", x.house.frame(1, 0, 1), 0);
        House.due("HELD ones", x.house.frame(1, 0, 2), 2);
        House.due("in the order in which they stand in it", x.show(1, 1, 0) + x.show(1, 1, 1), "2{a}");
        House.due("it goes on", x.house.process(1, 0), 0);
        House.due("no CALL", x.house.go(1, 500), 0);
        House.due("none fits", x.reason(1), "{error,function_clause}");
        House.due("nor this CALL began", x.house.go(2, 0), 0);
        House.due("its line then", x.house.frame(2, 0, 1), 1);
        House.says("a call that is badfun or badarity is no CALL");
        House y = begun("main() -> catch (a)(1), catch (fun() -> 1 end)(1), catch (fun main/0)(1,2), receive stop -> 1 end.");
        House.due("go(0, 0) comes behind them", y.house.go(0, 0), 0);
        House.due("it waits", y.house.process(0, 0), 1);
        House z = begun("main() -> catch f(1), catch (fun(2) -> 1 end)(1), receive stop -> 1 end. f(2) -> 1.");
        House.due("one without a fitting CLAUSE is one", z.house.go(0, 500), 2);
    }

    /** How many FRAMES there are in g(), which a FUNCTION with this BODY calls. */
    private static void framesOf(String body, int due) {
        House x = House.of("main() -> f(). f() -> " + body + ". g() -> receive stop -> 1 end. h() -> fun m/0. i() -> fun m/1. m() -> g(). m(_) -> g(). k(_) -> 1.");
        x.run(0);
        House.due("FRAMES in g() of " + body, x.house.process(0, 1), due);
    }

    private static void guards() {
        House.says("A GUARD holds if each E is true; what goes wrong in it is as false (nothing is told).");
        String[] yes = {"true", "true, true", "1 == 1", "not false", "true andalso true", "false orelse true", "is_atom(a), hd([true])", "element(1,{true})"};
        String[] no = {"false", "1", "true, false", "false, true", "true, 1", "[]", "{true}", "[true]", "ok", "- 1", "1 + a", "1 div 0", "2147483647 + 1", "hd([])", "tl(a)",
            "length([1|2])", "element(0,{true})", "element(2,{true})", "size([])", "not 1", "1 andalso true", "a orelse true", "true andalso 1", "true, hd([])", "- a"};
        for (String guard : yes) {
            House.value("if " + guard + " -> yes; true -> no end", "yes");
            House.value("case 1 of _ when " + guard + " -> yes; _ -> no end", "yes");
        }
        for (String guard : no) {
            House.value("if " + guard + " -> yes; true -> no end", "no");
            House.value("case 1 of _ when " + guard + " -> yes; _ -> no end", "no");
            House.prints("self() ! 1, receive _ when " + guard + " -> print(yes); _ -> print(no) end", "no");
            House.value("catch (fun() when " + guard + " -> yes end)()", "{error,function_clause}");
        }
        // What would have more than 500 cells goes wrong, too.
        House great = House.of("main() -> print(f(mk(250,[]))). f(A) when {A} == {A} -> yes; f(_) -> no." + MAKE);
        great.run(0);
        House.due("{A} is not made", great.output(), "no");
        // What goes wrong behind a GUARD that holds is told.
        House.value("catch case 1 of X when X == 1 -> hd([]); _ -> other end", "{error,badarg}");
        House.value("catch if true -> 1 + a; true -> other end", "{error,badarith}");
        House.prints("self() ! 1, print(catch receive X when X == 1 -> throw(t); _ -> other end)", "t");
        House.value("catch (fun(X) when X == 1 -> exit(X) end)(1)", "{exit,1}");
        House told = House.of("main() -> print(catch f(1)), f(2). f(X) when X > 0 -> error(X); f(_) -> other.");
        told.run(0);
        House.due("of a CLAUSE", told.output() + told.reason(0), "{error,1}{error,2}");
        // What was bound ahead of a P whose GUARD does not hold stays, what it bound is gone.
        House.value("begin X = 1, Y = 2, case 5 of Z when Z > 9 -> a; U when hd(U) -> b; V -> {X,Y,V} end end", "{1,2,5}");
        House.value("begin X = 1, case {3,4} of {A,B} when A > B -> a; {B,C} -> {X,B,C} end end", "{1,3,4}");
        House.prints("X = 1, self() ! 5, receive Z when Z > 9 -> a; V -> print({X,V}) end", "{1,5}");
        House.prints("X = 1, F = fun(Y) when Y > X -> {X,Y} end, print([catch F(0), F(2)])", "[{error,function_clause},{1,2}]");
        House bound = begun("main() -> X = 1, case {2,3} of {Y,Z} when Y > Z -> 1; {Y,_} -> f(X,Y) end, 1. f(_,_) -> 1.");
        bound.house.go(0, 0);
        House.due("X and Y", bound.house.frame(0, 0, 2), 2);
        House.says("CASES: the first whose P fits and whose GUARD holds; CHOICES: the first whose GUARD holds.");
        House.value("case {1,2} of {2,_} -> a; {_,_,_} -> b; {X,Y} when X > Y -> c; {X,2} -> {d,X}; _ -> e end", "{d,1}");
        House.value("if false -> a; 1 < 2 -> b; true -> c end", "b");
        House clauses = House.of("main() -> print([f(0),f(1),f([]),f([7])]). f(N) when N < 1 -> small; f(1) -> one; f([]) -> nothing; f([X|_]) -> X; f(1) -> never.");
        clauses.run(0);
        House.due("CLAUSES are tried in order", clauses.output(), "[small,one,nothing,7]");
    }

    private static void andalsoOrelse() {
        House.says("andalso, orelse: the second one is worked out if the first is true (false): its value, whatever it is, is that of both.");
        House.value("[true andalso x, true andalso false, false orelse {}, false orelse true]", "[x,false,{},true]");
        House.value("[false andalso error(x), true orelse error(x)]", "[false,true]");
        House.value("[catch (true andalso error(x)), catch (false orelse error(x))]", "[{error,x},{error,x}]");
        House.says("andalso, orelse, not of what is neither true nor false");
        House.value("[catch (ok andalso x), catch (1 orelse x), catch not ok, catch (x andalso error(y)), catch ([] orelse error(y))]",
            "[{error,badarg},{error,badarg},{error,badarg},{error,badarg},{error,badarg}]");
    }

    private static void whatIsTried() {
        patterns();
        House.says("CASES, funs, CLAUSES: the terms that are tried wait until one fits; then they are gone, but what is bound.");
        House held = begun("main() -> f(1,2). f(X,Y) when X < Y, true, X /= Y -> {a, begin if X < Y, true -> b end end, case X of 1 when true, true -> c end, g()}. g() -> 1.");
        held.house.go(0, 1);
        House.due("what a GUARD has worked out is gone, too", held.house.frame(0, 0, 3), 3);
        House.due("the first", held.show(0, 2, 0), "a");
        House x = begun("main() -> f({1,2},3). f({A,_},_) -> case {A,[4]} of {_,B} -> {B,g()} end. g() -> 1.");
        x.house.go(0, 1);
        House.due("B waits alone", x.house.frame(0, 0, 3), 1);
        House.due("A and B are bound", x.house.frame(0, 0, 2), 2);
        // Among what can be reached are those that are tried while the GUARD makes terms.
        House y = House.of("main() -> f({mk(241,[])}). f(X) when {1,2,3,4,5,6,7,8} == X -> no; f({X}) when {1,2,3,4,5,6,7,8} == X -> no; f({[A|_]}) -> print(A)." + MAKE);
        y.run(0);
        // 484 cells are tried, 9 more have room, the next 9 clear.
        House.due("it was cleared once", y.house.process(0, 3), 1);
        House.due("what was tried is still there", y.output(), "1");
        House z = House.of("main() -> case {mk(241,[])} of X when {1,2,3,4,5,6,7,8} == X -> no; {X} when {1,2,3,4,5,6,7,8} == X -> no; {[A|_]} -> print(A) end." + MAKE);
        z.run(0);
        House.due("of case, too", z.output(), "1");
        House w = House.of("main() -> self() ! {mk(120,[])}, mk(20,[]), receive X when {1,2,3,4,5,6,7,8} == X -> no; {X} when {1,2,3,4,5,6,7,8} == X -> no; {[A|_]} -> print(A) end." + MAKE);
        w.run(0);
        House.due("of receive, too", w.output(), "1");
    }

    /** Which terms of each kind a P fits. */
    private static void fits(String pattern, String due) {
        StringBuilder fit = new StringBuilder();
        for (String term : new String[] {"97", "a", "ref()", "fun main/0", "self()", "{}", "{97}", "{97,98}", "[]", "[97]", "[97,98]", "[97|98]", "[97,99]", "[98,98]", "[97,98,99]", "[{}]"}) {
            House x = House.of("main() -> case " + term + " of " + pattern + " -> print(fits); _ -> print(no) end.");
            x.run(0);
            fit.append(x.output().equals("fits") ? "+" : x.output().equals("no") ? "-" : "?");
        }
        House.due(pattern + " of 97 a ref fun self {} {97} {97,98} [] [97] [97,98] [97|98] [97,99] [98,98] [97,98,99] [{}]", fit.toString(), due);
    }

    private static void patterns() {
        House.says("P: a NAME, number (also with - ahead), ATOM, STRING, { P, .. }, [ P, .. ], [ P, .. | P ], ( P )");
        fits("X", "++++++++++++++++");
        fits("_", "++++++++++++++++");
        fits("97", "+---------------");
        fits("- 97", "----------------");
        fits("a", "-+--------------");
        fits("{}", "-----+----------");
        fits("{_}", "------+---------");
        fits("{97}", "------+---------");
        fits("{98}", "----------------");
        fits("{_,_}", "-------+--------");
        fits("{X,X}", "----------------");
        fits("[]", "--------+-------");
        fits("\"\"", "--------+-------");
        fits("[_]", "---------+-----+");
        fits("[_|_]", "---------+++++++");
        fits("[97|_]", "---------++++-+-");
        fits("[_,_]", "----------+-++--");
        fits("[_,_|_]", "----------+-+++-");
        fits("[X,X]", "-------------+--");
        fits("[_|98]", "-----------+----");
        fits("\"a\"", "---------+------");
        fits("\"ab\"", "----------+-----");
        fits("\"abc\"", "--------------+-");
        fits("\"abcd\"", "----------------");
        fits("\"aa\"", "----------------");
        fits("\"abab\"", "----------------");
        fits("[97|\"b\"]", "----------+-----");
        fits("[{}]", "---------------+");
        fits("([({})])", "---------------+");
        House.prints("case -7 of 7 -> print(no); -7 -> print(yes) end", "yes");
        House.prints("case \"" + "z".repeat(40) + "\" of \"" + "z".repeat(39) + "y\" -> print(no); \"" + "z".repeat(40) + "\" -> print(yes) end", "yes");
    }

    private static void wrong() {
        House.says("badarg (.. ! with neither a PROCESS nor a named ATOM");
        House.value("[catch (a ! 1), catch (1 ! 1), catch ([] ! 1), catch ({} ! 1), catch (ref() ! 1)]",
            "[{error,badarg},{error,badarg},{error,badarg},{error,badarg},{error,badarg}]");
        House.prints("name(a,self()), print(a ! 1), unname(a), print(catch (a ! 2))", "1/{error,badarg}");
        House.says("{badmatch, T}; function_clause (also of FUNS); {case_clause, T}; if_clause; {badfun, T} (called, and no FUN); {badarity, N} (how many ARGUMENTS there were)");
        House.value("catch {a,_} = {b,1}", "{error,{badmatch,{b,1}}}");
        House.value("catch [] = [1|2]", "{error,{badmatch,[1|2]}}");
        House.value("catch (fun([]) -> 1 end)(1)", "{error,function_clause}");
        House.value("catch case {1} of {2} -> 1; {} -> 2 end", "{error,{case_clause,{1}}}");
        House.value("catch if 1 -> 1; false -> 2 end", "{error,if_clause}");
        House.value("[catch (1)(), catch ([])(1), catch {b}(1,2), catch \"\"()]",
            "[{error,{badfun,1}},{error,{badfun,[]}},{error,{badfun,{b}}},{error,{badfun,[]}}]");
        House.prints("F = fun(_,_) -> 1 end, print([catch F(), catch F(1), F(1,2), catch F(1,2,3), catch F(1,2,3,4,5,6)])",
            "[{error,{badarity,0}},{error,{badarity,1}},1,{error,{badarity,3}},{error,{badarity,6}}]");
        House.says("Without one the PROCESS ENDS: its REASON is {error, T}, T of an EXIT, {nocatch, T} of a THROW; normal, if its first FRAME ends.");
        House.ends("1 = 2", "{error,{badmatch,2}}");
        House.ends("error({x})", "{error,{x}}");
        House.ends("exit({x})", "{x}");
        House.ends("exit(normal)", "normal");
        House.ends("throw({x})", "{nocatch,{x}}");
        House.ends("{x}", "normal");
        House deep = House.of("main() -> [1,f()]. f() -> {2,g()}. g() -> exit(out).");
        deep.run(0);
        House.due("from above", deep.reason(0), "out");
    }

    private static void catches() {
        House.says("They go up to the innermost catch of the PROCESS: its value is {error, T}, {exit, T}, or T of a THROW");
        House.value("[catch error(a), catch exit(b), catch throw(c), catch d]", "[{error,a},{exit,b},c,d]");
        House.value("catch {catch throw(a), throw(b)}", "b");
        House.value("catch {1, catch {2, error(a)}}", "{1,{error,a}}");
        House.ends("catch 1, error(x)", "{error,x}");
        House.prints("catch print(a), print(b), error(x)", "a/b");
        House.prints("print([catch 1, catch throw(2)]), print(catch {catch 3, throw(4)}), error(x)", "[1,2]/4");
        House.ends("{catch throw(1), error(x)}", "{error,x}");
        House.says("FRAMES above it are gone, what waited in its own since it began, too");
        House x = begun("main() -> X = 1, {a, catch {b, begin Y = 2, f(X + Y) end}, g()}. f(N) -> {c, h(N)}. h(_) -> throw(up). g() -> 1.");
        x.house.go(0, 1);
        House.due("three FRAMES soon", x.house.go(0, 1), 1);
        House.due("now one", x.house.process(0, 1), 1);
        House.due("a and up wait", x.show(0, 2, 0) + x.show(0, 2, 1), "aup");
        House.due("nothing else does", x.house.frame(0, 0, 3), 2);
        House.due("X alone is bound", x.house.frame(0, 0, 2), 1);
        House.says("what is behind andalso, orelse, = or in catch does not stand so");
        House again = House.of("main() -> f(100). f(0) -> done; f(N) -> catch f(N - 1).");
        again.run(0);
        House.due("each catch keeps its FRAME", again.reason(0), "stack");
        House once = House.of("main() -> loop(300). loop(0) -> print(done); loop(N) -> catch error(N), loop(N - 1).");
        once.run(0);
        House.due("one that is over is gone", once.output(), "done");
    }

    private static void used(String body, int due) {
        House x = House.of("main() -> " + body + ", receive stop -> 1 end.");
        x.run(0);
        House.due("waits behind " + body, x.house.process(0, 0), 1);
        House.due("cells of " + body, x.house.process(0, 2), due);
    }

    private static void joining() {
        House.says("++: the first one's PAIRS anew ahead of the second one ([] ++ T is T, whatever it is: nothing is made).");
        used("[1,2] ++ [3]", 4 + 2 + 4);
        used("[1,2] ++ []", 4 + 4);
        used("[] ++ [1]", 2);
        used("[] ++ {1}", 2);
        used("[] ++ []", 0);
        used("[1] ++ a", 2 + 2);
        House.value("{[1,2] ++ [3], [] ++ x, [1] ++ x, [] ++ [], [[]] ++ []}", "{[1,2,3],x,[1|x],[],[[]]}");
        House.says("++ whose first one is no list, -- with one that is none");
        House.value("[catch a ++ [], catch [1|2] ++ [], catch {} ++ [], catch 1 -- [], catch [1|2] -- [], catch [] -- 1, catch [] -- [1|2]]",
            ("[" + "{error,badarg},".repeat(7)).substring(0, 100));
    }

    private static void without() {
        House.value("{[70,80,90,75] ++ [85], [70,80,90,75] -- [75], [70,80,90,75] -- [80,70], [70,80,90,75] -- [85]}", "{[70,80,90,75,85],[70,80,90],[90,75],[70,80,90,75]}");
        House.says("--: for each part of the second list, in order, the first part of the first one that is alike goes");
        House.value("{[1,2,1,2] -- [2], [1,2,1,2] -- [2,2], [1,2,1,2] -- [2,2,2], [a,{b},[c]] -- [[c],{b}], [] -- [1], [1] -- []}",
            "{[1,1,2],[1,1],[1,1],[a],[],[1]}");
        House.says("what is left of the first one is made anew up to the last part that went (the first one itself, if none did)");
        used("X = [1,2,3,4], X -- [1]", 8 + 2);
        used("X = [1,2,3,4], X -- [2]", 8 + 2 + 2);
        used("X = [1,2,3,4], X -- [4]", 8 + 2 + 6);
        used("X = [1,2,3,4], X -- [3,1]", 8 + 4 + 2);
        used("X = [1,2,3,4], X -- [4,3,2,1]", 8 + 8);
        used("X = [1,2,3,4], X -- [5]", 8 + 2);
        used("X = [1,2,3,4], X -- []", 8);
    }

    /** As print writes it. */
    private static String term(String written) {
        return written.replace("[[1]|[2]]", "[[1],2]").replace("\"ab\"", "[97,98]").replace("\"c\"", "[99]");
    }

    private static void sending() {
        House.says("! : a copy of T (each PAIR, TUPLE and FUN as often as it is met) comes to the end of the BOX; T itself is the value.");
        used("X = {1}, self() ! {X,X}", 2 + 3 + 3 + 2 + 2);
        used("X = {1}, F = fun() -> X end, self() ! [F|F]", 2 + 3 + 2 + 2 + 2 * (3 + 2));
        used("self() ! a", 0);
        used("self() ! \"ab\"", 4 + 4);
        House.prints("X = {1}, print(self() ! {X,X})", "{{1},{1}}");
        // 4 cells and a copy of 4; w(246) makes 492 that nothing reaches; then {} has no room: both of them stay.
        House itself = begun("main() -> X = (self() ! {a,b,c}), w(246), {}, f(X). f(_) -> 1. w(0) -> ok; w(N) -> [N], w(N - 1).");
        itself.house.go(0, 247);
        House.due("CLEARED", itself.house.process(0, 3), 1);
        House.due("T itself, the copy and {}", itself.house.process(0, 2), 4 + 4 + 1);
        // Heads, tails, parts and held ones that have cells themselves
        for (String term : new String[] {"[{a,1},[b],{}]", "[[[1]]]", "[[1]|[2]]", "[{1}|{2}]", "{[{1}],{[2]}}", "{{{}}}", "[\"ab\",\"c\"]", "{[],[[]],{}}", "[{a}]", "[[a]]"}) {
            House.prints("P = spawn(fun() -> receive {Q,X} -> Q ! [X], Q ! {X,X} end end), P ! {self()," + term + "}, receive [X] -> print(X) end, receive {Y,Z} -> print(Y), print(Y == Z) end", term(term) + "/" + term(term) + "/true");
            House.prints("X = " + term + ", P = spawn(fun() -> print(X), print([X] == [" + term + "]) end), receive after 0 -> 1 end", term(term) + "/true");
            House.prints("self() ! " + term + ", receive X -> print(X), print(X == " + term + ") end", term(term) + "/true");
        }
        House.says("Nothing comes to one that has ENDED, or whose BOX is full.");
        House x = begun("main() -> P = spawn(fun() -> 1 end), receive 1 -> print(P ! {x}) end.");
        x.house.go(0, 0);
        x.house.go(1, 0);
        x.house.send(0, 0, 1);
        x.house.go(0, 0);
        House.due("the value", x.output(), "{x}");
        House.due("no message", x.house.process(1, 4), 0);
        House.due("no cells", x.house.process(1, 2), 0);
        x = begun("main() -> P = spawn(fun idle/0), fill(P,30), print(P ! {x}). fill(_,0) -> ok; fill(P,N) -> P ! N, fill(P,N - 1)." + IDLE);
        x.house.go(0, 500);
        House.due("the value", x.output(), "{x}");
        House.due("30 messages", x.house.process(1, 4), 30);
        House.due("the FUN's cells alone", x.house.process(1, 2), 2);
    }

    private static void printing() {
        House.says("print: the text of T is a line of OUTPUT (200 at most, 100 signs each, what is more is lost)");
        House x = begun("main() -> loop(1). loop(N) -> print(N), loop(N + 1).");
        x.house.go(0, 198);
        House.due("198 lines", x.house.count(5), 198);
        x.house.go(0, 1);
        House.due("199 lines", x.house.count(5), 199);
        x.house.go(0, 1);
        House.due("200 lines", x.house.count(5), 200);
        x.house.go(0, 1);
        House.due("one more is lost", x.house.count(5), 200);
        House.due("the last one", x.line(199), "200");
        House.due("none behind it", x.house.printed(200, 0), MailHouse.NONE);
        String atom = "abcdefghijklmnop";
        String five = "{" + (atom + ",").repeat(5);
        House y = House.of("main() -> print(" + five + "abcdefghijklm}), print(" + five + "abcdefghijklmn}), print(" + five + "abcdefghijkl}).");
        y.run(0);
        House.due("100 signs", y.line(0), five + "abcdefghijklm}");
        House.due("sign 99", y.house.printed(0, 99), '}');
        House.due("of 101 the last is lost", y.line(1), five + "abcdefghijklmn");
        House.due("sign 100", y.house.printed(1, 100), MailHouse.NONE);
        House.due("99 signs", y.line(2).length(), 99);
        House.says("numbers, ATOMS; {a,b}; lists [a,b] and [a|b]; <N> a PROCESS, #N a REFERENCE, fun a FUN");
        House.prints("print(0), print(-2147483647 - 1), print(2147483647), print(-10), print(a_B9), print({}), print([])", "0/-2147483648/2147483647/-10/a_B9/{}/[]");
        House.prints("print({{},[]}), print([{}|[]]), print([a|b]), print([a,b|c]), print([[a]|[[b]]]), print([[a|b]|{c}])", "{{},[]}/[{}]/[a|b]/[a,b|c]/[[a],[b]]/[[a|b]|{c}]");
        House.prints("print(self()), print(ref()), print(fun() -> 1 end), print([self()|ref()]), print(\"a\")", "<0>/#0/fun/[<0>|#1]/[97]");
    }

    private static void receiving() {
        House.says("receive: messages from the oldest on, each against all CASES; the first that fits goes out of the BOX.");
        House.prints("self() ! 1, self() ! 2, receive 2 -> print(two); 1 -> print(one) end, receive X -> print(X) end", "one/2");
        House.prints("self() ! 1, self() ! 2, self() ! 3, receive 2 -> ok end, receive X -> print(X) end, receive X -> print(X) end", "1/3");
        House.says("If none does the PROCESS WAITS; when one comes, those that it has not tried are tried, when it goes on.");
        // Each try of the GUARD makes two TUPLES of 2 cells.
        House x = begun("main() -> receive X when {X} == {9} -> print(X) end.");
        x.house.send(0, 0, 1);
        x.house.send(0, 0, 2);
        x.house.go(0, 0);
        House.due("it waits", x.house.process(0, 0), 1);
        House.due("both were tried", x.house.process(0, 2), 8);
        House.due("nothing has come since", x.thrownByGo(0, 0), "IllegalStateException");
        x.house.send(0, 0, 3);
        House.due("it is not tried yet", x.house.process(0, 2), 8);
        House.due("go() may be called", x.house.process(0, 0), 2);
        x.house.go(0, 0);
        House.due("that one alone is tried", x.house.process(0, 2), 12);
        x.house.send(0, 0, 4);
        x.house.send(0, 0, 9);
        x.house.go(0, 0);
        House.due("the one that fits", x.output(), "9");
        // The next receive tries all of the BOX again.
        House y = begun("main() -> receive 2 -> ok end, receive 1 -> print(again) end.");
        y.house.send(0, 0, 1);
        y.house.go(0, 0);
        y.house.send(0, 0, 2);
        y.house.go(0, 0);
        House.due("from the oldest on", y.output(), "again");
    }

    private static void after() {
        House.says("after T (worked out first): a number, 0 or above, or the ATOM infinity (badarg else)");
        for (String time : new String[] {"-1", "-2147483647", "a", "[]", "{}", "self()", "ref()", "fun main/0", "\"1\"", "true", "none"}) {
            House.prints("self() ! 1, print(catch receive 1 -> got after " + time + " -> late end), receive X -> print(X) end", "{error,badarg}/1");
        }
        House.prints("self() ! 1, receive 1 -> print(got) after begin print(first), 0 end -> late end", "first/got");
        House.prints("self() ! 1, receive 1 -> print(got) after infinity -> late end", "got");
        // A CALL in T is not the LAST: the receive is done behind it.
        House called = House.of("main() -> receive after f() -> print(late) end. f() -> 0.");
        called.run(0);
        House.due("f() ahead of the receive", called.output(), "late");
        House again = begun("main() -> receive 1 -> f() after 50 -> 2 end. f() -> 1.");
        again.house.go(0, 0);
        again.house.send(0, 0, 1);
        House.due("as it waits", again.house.process(0, 10), 50);
        again.house.go(0, 0);
        House.due("as it has taken one, ahead of f()", again.house.process(0, 10), MailHouse.NONE);
        House x = begun("main() -> receive 1 -> got after infinity -> late end.");
        x.house.go(0, 0);
        x.house.clock(1000000000);
        House.due("infinity never comes", x.house.process(0, 0), 1);
        House.due("it does not go on by itself", x.house.process(0, 10), MailHouse.NONE);
        House.says("if none of the BOX fits, and the CLOCK comes to what it was as the receive began and T more, its BODY (T 0: at once, behind all of the BOX)");
        House y = begun("main() -> receive 1 -> print(got) after 5 -> print(now()) end.");
        y.house.clock(10);
        y.house.go(0, 0);
        House.due("when it goes on", y.house.process(0, 10), 15);
        y.house.clock(4);
        House.due("not at 14", y.house.process(0, 0), 1);
        House.due("nor may it be told to", y.thrownByGo(0, 0), "IllegalStateException");
        y.house.clock(1);
        House.due("at 15", y.house.process(0, 0), 2);
        y.house.clock(7);
        House.due("and behind it", y.house.process(0, 0), 2);
        House.due("the time stays", y.house.process(0, 10), 15);
        y.house.go(0, 0);
        House.due("its BODY", y.output(), "22");
        House v = begun("main() -> receive 1 -> print(got) after 10 -> print(now()) end.");
        v.house.go(0, 0);
        for (int i = 0; i < 3; i++) {
            v.house.clock(3);
            v.house.send(0, 0, 2);
            v.house.go(0, 0);
            House.due("messages that do not fit leave the time as it is", v.house.process(0, 10), 10);
            House.due("it waits", v.house.process(0, 0), 1);
        }
        v.house.clock(1);
        v.house.go(0, 0);
        House.due("ten behind the beginning", v.output(), "10");
        // A message that fits goes ahead of the time.
        House z = begun("main() -> receive 1 -> print(got) after 5 -> print(late) end.");
        z.house.go(0, 0);
        z.house.clock(5);
        z.house.send(0, 0, 2);
        z.house.send(0, 0, 1);
        z.house.go(0, 0);
        House.due("what fits goes first", z.output(), "got");
        House w = begun("main() -> receive 1 -> print(got) after 5 -> print(late) end.");
        w.house.go(0, 0);
        w.house.clock(5);
        w.house.send(0, 0, 2);
        w.house.go(0, 0);
        House.due("what does not fit does not keep it", w.output(), "late");
        House.due("and is not taken", w.reason(0), "normal");
        House.prints("self() ! 1, self() ! 2, receive 2 -> print(got) after 0 -> print(late) end", "got");
        House.prints("self() ! 1, receive 2 -> print(got) after 0 -> print(late) end, receive X -> print(X) end", "late/1");
        House.prints("receive after 0 -> print(late) end", "late");
        House never = begun("main() -> receive after 2147483647 -> 1 end.");
        never.house.clock(1000000000);
        never.house.go(0, 0);
        House.due("beyond what the CLOCK can come to", never.house.process(0, 10), 2147483647);
        House.due("it waits", never.house.process(0, 0), 1);
        House most = begun("main() -> receive after 2147483646 -> 1 end.");
        most.house.clock(1);
        most.house.go(0, 0);
        House.due("the greatest that is told as it is", most.house.process(0, 10), 2147483647);
        House exact = begun("main() -> receive after 999999999 -> print(over) end.");
        exact.house.clock(1);
        exact.house.go(0, 0);
        exact.house.clock(999999999);
        exact.house.go(0, 0);
        House.due("at the end of time", exact.house.count(5), 1);
    }
}
