/** The section TERMS of the document: each sentence that names an edge, looked at on both sides of it. */
public final class EdgesOfTermsTest {
    /** A term of each kind, in their ORDER; those of a kind are in ORDER, too. */
    private static final String[] KINDS = {"-2147483647 - 1", "0", "2147483647", "a", "aZ", "a_", "aa", "b", "ref()", "fun() -> 1 end", "fun() -> 2 end",
        "fun main/0", "self()", "{}", "{1}", "{0,0}", "[]", "[0]", "[0,0]", "[0|[1]]", "[1]"};

    public static void main(String[] args) {
        cells();
        references();
        alike();
        order();
        orderOfFuns();
        whatIsTaken();
        partsOfTerms();
        tests();
        values();
        House.close();
    }

    private static void used(String body, int due) {
        House x = House.of("main() -> " + body + ", receive stop -> 1 end.");
        x.run(0);
        House.due("waits behind " + body, x.house.process(0, 0), 1);
        House.due("cells of " + body, x.house.process(0, 2), due);
    }

    private static void cells() {
        House.says("CELLS: a PAIR 2, a TUPLE 1 more than it has, a FUN 2 more than it holds; others none.");
        used("[1|2]", 2);
        used("[1,2,3,4,5,6,7,8]", 16);
        used("{}", 1);
        used("{1,2,3,4,5,6,7,8}", 9);
        used("fun() -> 1 end", 2);
        used("X = 1, Y = 2, fun() -> {X,Y,X} end", 4);
        used("X = 1, Y = 2, fun(X) -> {X,Y,X} end", 3);
        used("fun main/0", 2);
        used("fun(_) -> 1 end", 2);
        used("X = 1, fun(_,{Y,_}) -> _ = Y, [_|_] = X end", 3);
        used("2147483647, -2147483647, abc, self(), ref(), []", 0);
        House.says("STRINGS are lists of numbers.");
        used("\"" + "x".repeat(40) + "\"", 80);
        used("\"\"", 0);
        House.value("{\"\" == [], \" ~\" == [32,126]}", "{true,true}");
    }

    private static void references() {
        House.says("REFERENCES (numbers from 0 on as they are made)");
        House x = House.of("main() -> P = spawn(fun() -> print(ref()) end), print({ref(),watch(P),watch(self()),ref()}), receive 1 -> 2 end.");
        for (int run = 0; run < 2; run++) {
            x.house.begin(0);
            x.house.go(0, 0);
            House.due("none is made ahead of them", x.house.count(8), 4);
            x.house.go(1, 0);
            House.due("of all processes", x.output(), "{#0,#1,#2,#3}/#4");
            House.due("made", x.house.count(8), 5);
        }
    }

    private static void alike() {
        House.says("Alike are numbers, ATOMS and so on that are the same, FUNS of one place whose held terms are alike (of fun f / n: the same f and n), PAIRS and TUPLES of alike ones.");
        House.value("{1 == 1, 1 == 2, a == a, a == b, self() == self(), ref() == ref(), [] == [], [] == {}}",
            "{true,false,true,false,true,false,true,false}");
        House.value("{0 == [], 0 == false, {} == {}, {1} == {1,1}, {[a]} == {[a]}, {[a]} == {[b]}, [1,2] == [1|2], [1,2] == [1,2]}",
            "{false,false,true,false,true,false,false,true}");
        House.prints("F = fun(X) -> fun() -> X end end, print({F == F, F(1) == F(1), F(1) == F(2), F({a}) == F({a}), F(1) == F})",
            "{true,true,false,true,false}");
        House.prints("R = ref(), print({R == R, {R} == {R}, fun() -> 1 end == fun() -> 1 end})", "{true,true,false}");
        House x = House.of("main() -> print({fun main/0 == fun main/0, fun main/0 == fun main/1, fun main/0 == fun other/0}). main(_) -> 1. other() -> 1.");
        x.run(0);
        House.due("FUNS of ATOMS", x.output(), "{true,false,false}");
        House.says("Where it is bound already a P compares.");
        House.prints("X = {[1],self()}, {Y,Y} = {X,{[1],self()}}, print(Y == X)", "true");
    }

    private static void order() {
        House.says("ORDER: numbers (by value), ATOMS (by their signs), REFERENCES, FUNS (by place, those of ATOMS behind all, by FUNCTION; then held ones), PROCESSES, TUPLES (by how many, then from the first on), [], PAIRS (heads, then tails).");
        // In one list literal eight at most may stand: it is made of lists.
        StringBuilder all = new StringBuilder("[");
        for (int i = 0; i < KINDS.length; i++) {
            all.append(i == 0 ? "" : "] ++ [").append(KINDS[i]);
        }
        all.append("]");
        House x = House.of("main() -> all(" + all + "). all([]) -> ok; all([H|T]) -> print([H == H, one(H,T)]), all(T).\n"
            + "one(_,[]) -> []; one(H,[X|T]) when H < X, H =< X, X > H, X >= H, H /= X -> one(H,T); one(H,[X|_]) -> {wrong,H,X}.");
        x.run(0);
        House.due("all were looked at", x.house.count(5), KINDS.length);
        for (int i = 0; i < KINDS.length; i++) {
            House.due(KINDS[i] + " is below all behind it", x.line(i), "[true,[]]");
        }
        House.prints("print([{2} < {1,1}, {1,2} < {2,1}, {1,2} < {1,3}, {1,2} < {1,2}, [1|2] < [1], [2] < [1,2], [1,2] < [1,3], [[]] < [[1]]])",
            "[true,true,true,false,true,false,true,true]");
        House x2 = House.of("main() -> P = spawn(fun other/0), R = ref(), S = ref(), print([self() < P, P < self(), R < S, S < R, R =< R]). other() -> 1.");
        x2.run(0);
        House.due("by their numbers", x2.output(), "[true,false,true,false,true]");
        // What is alike is neither below nor above.
        for (String one : new String[] {"1", "a", "{}", "{1,[a]}", "[]", "[1|2]", "self()", "fun main/0"}) {
            House.value("[X < Y, X =< Y, X == Y, X /= Y, X >= Y, X > Y]".replace("X", one).replace("Y", one), "[false,true,true,false,true,false]");
        }
        House.value("[1 < 2, 1 =< 2, 1 == 2, 1 /= 2, 1 >= 2, 1 > 2]", "[true,true,false,true,false,false]");
        House.value("[2 < 1, 2 =< 1, 2 == 1, 2 /= 1, 2 >= 1, 2 > 1]", "[false,false,false,true,true,true]");
        House.says("ATOMS (by their signs)");
        House.value("[ab < abc, abc < ab, a < b, b < a, aA < aa, a1 < aA, aZ < a_, a_ < aa]", "[true,false,true,false,true,true,true,true]");
        // They are numbered otherwise: true is 0, ok is 2.
        House.value("[ok < true, true < ok, badarg < badarith, stack < true]", "[true,false,true,true]");
    }

    private static void orderOfFuns() {
        House.says("FUNS (by place, those of ATOMS behind all, by FUNCTION; then held ones)");
        House x = House.of("second() -> 1. main() -> F = fun(X) -> fun() -> X end end, G = fun() -> 0 end, print([F < G, G < F, F < F(9), F(9) < G, F(1) < F(2), F(2) < F({}), F(1) < F(1)]),"
            + " print([G < fun main/0, fun last/0 < G, fun second/0 < fun main/0, fun main/0 < fun second/0, fun second/0 < fun last/0, fun last/0 =< fun last/0]). last() -> fun() -> 1 end.");
        x.run(1);
        House.due("by place, then what is held", x.line(0), "[true,false,true,true,true,true,false]");
        House.due("those of ATOMS", x.line(1), "[true,false,true,false,true,true]");
        House y = House.of("main() -> L = late(), F = fun() -> 1 end, print([F < L, L < F, L < fun main/0]). late() -> fun() -> 2 end.");
        y.run(0);
        House.due("places are those of the text", y.output(), "[true,false,true]");
    }

    /** A PREDEFINED one with each kind of term in place of X: which it does not take. */
    private static void refuses(String call, String due) {
        StringBuilder refused = new StringBuilder();
        for (String kind : new String[] {"1", "true", "ref()", "fun() -> 1 end", "fun(_) -> 1 end", "self()", "{}", "{1}", "[]", "[1]", "[1|2]"}) {
            House x = House.of("main() -> case catch " + call.replace("X", "(" + kind + ")") + " of {error,badarg} -> print(refused); _ -> ok end.");
            x.run(0);
            refused.append(x.house.count(5) == 1 ? "-" : x.house.process(0, 0) == 3 ? "+" : "?");
        }
        House.due(call + " of 1 true ref fun fun/1 self {} {1} [] [1] [1|2]", refused.toString(), due);
    }

    private static void whatIsTaken() {
        House.says("badarg (PREDEFINED ones with terms that they do not take");
        refuses("spawn(X)", "---+-------");
        refuses("link(X)", "-----+-----");
        refuses("unlink(X)", "-----+-----");
        refuses("watch(X)", "-----+-----");
        refuses("unwatch(X)", "--+--------");
        refuses("trap(X)", "-+---------");
        refuses("exit(X)", "+++++++++++");
        refuses("throw(X)", "+++++++++++");
        refuses("error(X)", "+++++++++++");
        refuses("exit(X,normal)", "-----+-----");
        refuses("exit(X,kill)", "-----+-----");
    }

    private static void partsOfTerms() {
        House.says("hd(L), tl(L), length(L), element(I, T) (from 1 on), size(T)");
        refuses("hd(X)", "---------++");
        refuses("tl(X)", "---------++");
        refuses("length(X)", "--------++-");
        refuses("size(X)", "------++---");
        refuses("element(1,X)", "-------+---");
        refuses("element(X,{a})", "+----------");
        refuses("named(X)", "-+---------");
        refuses("name(X,self())", "-+---------");
        refuses("name(a,X)", "-----+-----");
        refuses("unname(X)", "-----------");
        refuses("alive(X)", "-----+-----");
        refuses("X ! 1", "-----+-----");
        refuses("X ++ []", "--------++-");
        refuses("X -- []", "--------++-");
        refuses("[] -- X", "--------++-");
        refuses("[] ++ X", "+++++++++++");
        refuses("not X", "-+---------");
        refuses("X andalso 1", "-+---------");
        refuses("X orelse 1", "-+---------");
        House.value("{hd([1,2]), tl([1,2]), hd([1|2]), tl([1|2]), length([]), length([1,2]), size({}), size({1,2,3,4,5,6,7,8})}",
            "{1,[2],1,2,0,2,0,8}");
        String eight = "{a,b,c,d,e,f,g,h}";
        House.value("[catch element(0," + eight + "), element(1," + eight + "), element(8," + eight + "), catch element(9," + eight + "), catch element(-1,"
            + eight + "), catch element(2147483647," + eight + "), catch element(1,{})]",
            "[{error,badarg},a,h,{error,badarg},{error,badarg},{error,badarg},{error,badarg}]");
    }

    private static void tests() {
        House.says("Tests: is_number, is_atom, is_list ([] and PAIRS), is_tuple, is_fun, is_process, is_ref (each of one)");
        String[] names = {"is_number", "is_atom", "is_list", "is_tuple", "is_fun", "is_process", "is_ref"};
        String[] holds = {"+----------", "-+---------", "--------+++", "------++---", "---++------", "-----+-----", "--+--------"};
        String[] kinds = {"1", "true", "ref()", "fun() -> 1 end", "fun main/0", "self()", "{}", "{1}", "[]", "[1]", "[1|2]"};
        for (int t = 0; t < names.length; t++) {
            for (int k = 0; k < kinds.length; k++) {
                String due = holds[t].charAt(k) == '+' ? "true" : "false";
                House.value(names[t] + "(" + kinds[k] + ")", due);
                House.value("case " + kinds[k] + " of X when " + names[t] + "(X) -> true; _ -> false end", due);
            }
        }
        House.says("trap(B): what it was (true or false; at first false)");
        House.value("{trap(true), exit(self(),x), trap(false)}", "{false,true,true}");
        House.value("[trap(false), trap(true), trap(true), trap(false), trap(false)]", "[false,false,true,true,false]");
        House.says("named(A): the PROCESS, or none");
        House.value("[named(a), name(a,self()), named(a), named(b), unname(a), named(a)]", "[none,true,<0>,none,true,none]");
    }

    /** Each E stands between two others, which must be there behind it. */
    private static void values() {
        House.says("PREDEFINED .. self(), spawn(F) (a FUN without PATTERNS): the new PROCESS; link(P), unlink(P): true; watch(P): a REFERENCE ..");
        String[][] values = {{"self()", "<0>"}, {"spawn(fun() -> 1 end)", "<1>"}, {"link(self())", "true"}, {"unlink(self())", "true"}, {"watch(self())", "#0"},
            {"unwatch(ref())", "true"}, {"trap(true)", "false"}, {"exit(spawn(fun() -> 1 end),x)", "true"}, {"print(c)", "ok"}, {"ref()", "#0"},
            {"name(n,self())", "true"}, {"named(n)", "none"}, {"alive(self())", "true"}, {"now()", "0"}, {"is_number(1)", "true"}, {"is_atom(1)", "false"},
            {"is_list([])", "true"}, {"is_tuple({})", "true"}, {"is_fun(1)", "false"}, {"is_process(1)", "false"}, {"is_ref(1)", "false"}, {"hd([1,2])", "1"},
            {"tl([1,2])", "[2]"}, {"length([1,2])", "2"}, {"element(2,{c,d})", "d"}, {"size({1,2})", "2"},
            {"1 + 2", "3"}, {"1 - 2", "-1"}, {"2 * 3", "6"}, {"7 div 2", "3"}, {"7 rem 2", "1"}, {"1 == 2", "false"}, {"1 < 2", "true"}, {"[70,80,90] ++ [75]", "[70,80,90,75]"},
            {"[70,80,90,75,85] -- [75]", "[70,80,90,85]"}, {"- 1", "-1"}, {"not true", "false"}, {"true andalso c", "c"}, {"false andalso c", "false"}, {"false orelse c", "c"},
            {"true orelse c", "true"}, {"self() ! c", "c"}, {"_ = c", "c"}, {"{1,{2}}", "{1,{2}}"}, {"[70|80]", "[70|80]"}, {"[70,80,90]", "[70,80,90]"}, {"\"FPZ\"", "[70,80,90]"},
            {"begin 1, 2, c end", "c"}, {"case 1 of 1 -> c end", "c"}, {"if true -> c end", "c"}, {"receive after 0 -> c end", "c"}, {"fun() -> 1 end", "fun"}, {"fun main/0", "fun"},
            {"(fun(X) -> [X] end)(7)", "[7]"}, {"catch c", "c"}, {"catch throw(c)", "c"}, {"catch exit(c)", "{exit,c}"}, {"catch error(c)", "{error,c}"}, {"catch hd(c)", "{error,badarg}"},
            {"catch (1 = 2)", "{error,{badmatch,2}}"}, {"(c)", "c"}, {"{}", "{}"}, {"[]", "[]"}, {"\"\"", "[]"}};
        for (String[] one : values) {
            House x = House.of("main() -> Z = {a, (" + one[0] + "), b}, print(Z).");
            x.run(0);
            House.due(one[0], x.line(x.house.count(5) - 1), "{a," + one[1] + ",b}");
        }
        House.prints("print(print(a)), name(n,self()), print({unname(n), named(n)})", "a/ok/{true,none}");
        House.says("Alike .. (of fun f / n: the same f and n)");
        House first = House.of("f(X,Y) -> {f,X,Y}. main() -> F = fun f/2, print({F(1,2), catch F(1)}), spawn(fun last/0). last() -> print(last).");
        first.house.begin(1);
        first.settle();
        House.due("FUNS of the first FUNCTION and of the last", first.output(), "{{f,1,2},{error,{badarity,1}}}/last");
    }
}
