/** Promises 9 and 17: what texts work out, as it is printed. */
public final class LanguageTest {
    public static void main(String[] args) {
        terms();
        signs();
        order();
        lists();
        tests();
        patterns();
        choosing();
        funs();
        wrong();
        catches();
        ends();
        whatIsLeftOver();
        House.close();
    }

    private static void terms() {
        House.value("12", "12");
        House.value("-12", "-12");
        House.value("-2147483647 - 1", "-2147483648");
        House.value("abc", "abc");
        House.value("{}", "{}");
        House.value("{a,{b},[]}", "{a,{b},[]}");
        House.value("[]", "[]");
        House.value("[1,[2,3],{4}]", "[1,[2,3],{4}]");
        House.value("[1|2]", "[1|2]");
        House.value("[1,2|{3,[4|5]}]", "[1,2|{3,[4|5]}]");
        House.value("[1,2|[3]]", "[1,2,3]");
        House.value("\"hi\"", "[104,105]");
        House.value("\"\"", "[]");
        House.value("{self(),ref(),ref(),fun main/0,fun() -> 1 end,now()}", "{<0>,#0,#1,fun,fun,0}");
    }

    private static void signs() {
        House.value("1 + 2 * 3 - 4", "3");
        House.value("7 div 2", "3");
        House.value("-7 div 2", "-3");
        House.value("-7 rem 2", "-1");
        House.value("7 rem -2", "1");
        House.value("10 - 3 - 2", "5");
        House.value("100 div 5 div 2", "10");
        House.value("- - 3", "3");
        House.value("not true", "false");
        House.value("catch not 1 == 2", "{error,badarg}");
        House.value("{1 < 2, 2 =< 1, 1 > 2, 1 >= 1, 1 == 1, 1 /= 1}", "{true,false,false,true,true,false}");
        House.value("true andalso 5", "5");
        House.value("false andalso error(x)", "false");
        House.value("true orelse error(x)", "true");
        House.value("false orelse {a}", "{a}");
        House.value("true orelse false andalso 1", "true");
        House.value("false andalso true orelse 3", "3");
        House.value("catch 1 andalso true", "{error,badarg}");
        House.value("catch not 1", "{error,badarg}");
        House.value("catch (2147483647 + 1)", "{error,badarith}");
        House.value("catch 65536 * 65536", "{error,badarith}");
        House.value("catch -2147483647 - 2", "{error,badarith}");
        House.value("catch - (-2147483647 - 1)", "{error,badarith}");
        House.value("catch (-2147483647 - 1) div -1", "{error,badarith}");
        House.value("(-2147483647 - 1) rem -1", "0");
        House.value("catch 1 div 0", "{error,badarith}");
        House.value("catch 1 rem 0", "{error,badarith}");
        House.value("catch a + 1", "{error,badarith}");
        House.value("catch - a", "{error,badarith}");
        // From the left to the right
        House.prints("{print(1),[print(2),print(3)|print(4)]} == (print(5) == print(6))", "1/2/3/4/5/6");
        House.prints("X = begin print(1), 2 end + begin print(2), 3 end, print(X)", "1/2/5");
    }

    private static void order() {
        House.value("[1 < a, a < ref(), ref() < fun main/0, fun main/0 < self(), self() < {}, {} < [], [] < [1]]",
            "[true,true,true,true,true,true,true]");
        House.value("[ab < abc, abc < b, b < aa, a == a]", "[true,true,false,true]");
        House.value("[{9} < {1,1}, {1,2} < {1,3}, {1} < {1}]", "[true,true,false]");
        House.value("[[1] < [1,2], [2] < [1,2], [1|a] < [1], [1|2] == [1|2]]", "[true,false,true,true]");
        House.value("[-1 < 0, ref() < ref()]", "[true,true]");
        // FUNS by place, held ones next; those of ATOMS behind all
        House.prints("F = fun(X) -> fun() -> X end end, G = fun() -> 0 end, print([F(1) == F(1), F(1) < F(2), F(2) < G, F < F(0), G < fun main/0])",
            "[true,true,true,true,true]");
        House.prints("print([fun main/0 == fun main/0, fun() -> 1 end == fun() -> 1 end])", "[true,false]");
    }

    private static void lists() {
        House.value("[1,2] ++ [3]", "[1,2,3]");
        House.value("[1] ++ 2", "[1|2]");
        House.value("[] ++ x", "x");
        House.value("[1] ++ [2] ++ [3] ++ []", "[1,2,3]");
        House.value("catch x ++ []", "{error,badarg}");
        House.value("catch [1|2] ++ []", "{error,badarg}");
        House.value("[1,2,1,3] -- [1]", "[2,1,3]");
        House.value("[1,2,1,3] -- [3,1,1]", "[2]");
        House.value("[1,2] -- [5]", "[1,2]");
        House.value("[1,2,3] -- [1] -- [1]", "[1,2,3]");
        House.value("[{1},\"a\"] -- [\"a\",{1}]", "[]");
        House.value("catch x -- []", "{error,badarg}");
        House.value("catch [] -- x", "{error,badarg}");
        House.value("catch [1] -- [1|2]", "{error,badarg}");
    }

    private static void tests() {
        House.value("[is_number(1), is_number(a), is_atom(a), is_atom([]), is_list([]), is_list([1|2]), is_list({})]",
            "[true,false,true,false,true,true,false]");
        House.value("[is_tuple({}), is_fun(fun main/0), is_process(self()), is_ref(ref()), is_ref(1), is_process(1)]",
            "[true,true,true,true,false,false]");
        House.value("{hd([1,2]), tl([1,2]), length([1,2]), length([]), element(2,{a,b}), size({}), size({1,2})}",
            "{1,[2],2,0,b,0,2}");
        House.value("[catch hd([]), catch tl({}), catch length([1|2]), catch element(0,{a})]",
            "[{error,badarg},{error,badarg},{error,badarg},{error,badarg}]");
        House.value("[catch element(2,{a}), catch element(a,{a}), catch element(1,a), catch size([])]",
            "[{error,badarg},{error,badarg},{error,badarg},{error,badarg}]");
    }

    private static void patterns() {
        House.prints("{A,[B|C],\"hi\",-3,_,(D)} = {1,[2,3],\"hi\",-3,x,{y}}, print({A,B,C,D})", "{1,2,[3],{y}}");
        House.value("catch {A,A} = {1,2}", "{error,{badmatch,{1,2}}}");
        House.prints("{A,A} = {[1],[1]}, print(A)", "[1]");
        House.value("catch \"ab\" = \"abc\"", "{error,{badmatch,[97,98,99]}}");
        House.value("catch [] = [1]", "{error,{badmatch,[1]}}");
        House.value("catch {} = []", "{error,{badmatch,[]}}");
        House.value("X = {Y = 1}", "{1}");
        House.prints("X = 1, print(case 2 of X -> same; _ -> other end)", "other");
    }

    private static void choosing() {
        House.value("case 5 of N when N > 9 -> great; N when N > 1 -> {some,N}; _ -> small end", "{some,5}");
        House.value("catch case 1 of 2 -> 3 end", "{error,{case_clause,1}}");
        House.value("if 1 > 2 -> a; hd([]) -> b; 1 + a > 2 -> c; true, 1 -> d; true, 1 == 1 -> e end", "e");
        House.value("catch if false -> 1 end", "{error,if_clause}");
        House.value("case {1,2} of {A,B} when {A,B} == {1,2} -> yes; _ -> no end", "yes");
        House.value("case true of X when X andalso 5 -> a; X when X -> b end", "b");
        House.value("begin 1, 2, 3 end", "3");
        House fib = House.of("main() -> print(fib(10)). fib(N) when N < 2 -> N; fib(N) -> fib(N - 1) + fib(N - 2).");
        fib.run(0);
        House.due("fib(10)", fib.output(), "55");
        House.due("its calls", fib.house.count(6), 177);
    }

    private static void funs() {
        House.value("(fun(X) -> X + 1 end)(2)", "3");
        House.value("(fun(X) -> fun(Y) -> {X,Y} end end)(1)(2)", "{1,2}");
        House.prints("X = 1, F = fun(X) -> X end, print({X,F(2)})", "{1,2}");
        House.prints("X = 1, F = fun() -> X = 2 end, print(catch F())", "{error,{badmatch,2}}");
        House.value("catch (fun(1) -> 2 end)(2)", "{error,function_clause}");
        House.value("catch (fun(X) when X > 1 -> 2 end)(0)", "{error,function_clause}");
        House.value("catch (a)(1)", "{error,{badfun,a}}");
        House.value("catch \"a\"(1)", "{error,{badfun,[97]}}");
        House.value("catch (fun() -> 1 end)(1,2)", "{error,{badarity,2}}");
        House of = House.of("main() -> F = fun two/2, print(F(1,2)), print(catch F(1)). two(A,B) -> {B,A}.");
        of.run(0);
        House.due("fun two/2", of.output(), "{2,1}/{error,{badarity,1}}");
    }

    private static void wrong() {
        House.ends("1 = 2", "{error,{badmatch,2}}");
        House.ends("hd(1)", "{error,badarg}");
        House.ends("error({x})", "{error,{x}}");
        House.ends("exit({x})", "{x}");
        House.ends("throw({x})", "{nocatch,{x}}");
        House.ends("ok", "normal");
        House.ends("exit(kill)", "kill");
        House.ends("foo ! 1", "{error,badarg}");
        House.ends("1 ! 1", "{error,badarg}");
        House clause = House.of("main() -> f(1). f(2) -> 3.");
        clause.run(0);
        House.due("no clause", clause.reason(0), "{error,function_clause}");
        House first = House.of("main() when false -> 3.");
        first.run(0);
        House.due("no first clause", first.reason(0), "{error,function_clause}");
        House.due("it is no call", first.house.count(6), 0);
    }

    private static void catches() {
        House.value("catch error(x)", "{error,x}");
        House.value("catch exit(x)", "{exit,x}");
        House.value("catch throw(x)", "x");
        House.value("catch 5", "5");
        House.value("catch catch error(x)", "{error,x}");
        House.value("{1, catch {2, throw(x)}, 3}", "{1,x,3}");
        House.prints("catch begin print(1), error(a), print(2) end, print(3)", "1/3");
        House.prints("X = (catch begin Y = 1, throw({Y}) end), print(X)", "{1}");
        House deep = House.of("main() -> print([1, catch down(5), 2]). down(0) -> throw(up); down(N) -> N + down(N - 1).");
        deep.run(0);
        House.due("through frames", deep.output(), "[1,up,2]");
    }

    private static void ends() {
        House.prints("print(a), exit(b), print(c)", "a");
        House.prints("print(now()), receive after 0 -> print(late) end", "0/late");
    }

    /** 200 lines, 100 signs each. */
    private static void whatIsLeftOver() {
        House many = House.of("main() -> loop(0). loop(N) when N < 205 -> print(N), loop(N + 1); loop(_) -> print(\"" + "x".repeat(40) + "\").");
        many.run(0);
        House.due("lines", many.house.count(5), 200);
        House.due("the last line", many.line(199), "199");
        House.due("line 200", many.house.printed(200, 0), MailHouse.NONE);
        House.due("line -1", many.house.printed(-1, 0), MailHouse.NONE);
        House.due("sign -1", many.house.printed(0, -1), MailHouse.NONE);
        House wide = House.of("main() -> print(\"" + "x".repeat(40) + "\"), exit(\"" + "y".repeat(40) + "\").");
        wide.run(0);
        // [120,120,..: a bracket and four signs each
        House.due("the last sign", wide.house.printed(0, 99), '0');
        House.due("a long line", wide.line(0).length(), 100);
        House.due("its beginning", wide.line(0).substring(0, 9), "[120,120,");
        House.due("a long text", wide.house.show(0, 3, 0), 100);
        House.due("its sign 100", wide.house.shown(100), MailHouse.NONE);
    }
}
