/** Promises 9, 11 and 12: cells, clearings, and what ENDS for want of room. */
public final class HeapTest {
    public static void main(String[] args) {
        cells();
        copies();
        clearing();
        whatStays();
        tooGreat();
        noRoom();
        wrongTerms();
        House.close();
    }

    /** The cells that a BODY has used when it waits behind it. */
    private static void used(String body, int due) {
        House x = House.of("main() -> " + body + ", receive stop -> 1 end. f(X) -> X.");
        x.run(0);
        House.due("waits behind " + body, x.house.process(0, 0), 1);
        House.due("cells of " + body, x.house.process(0, 2), due);
    }

    private static void cells() {
        used("1", 0);
        used("{a,self(),[]}", 4);
        used("{}", 1);
        used("[1,2,3]", 6);
        used("[1|2]", 2);
        used("[]", 0);
        used("\"abcd\"", 8);
        used("\"\"", 0);
        used("{{1},[2]}", 3 + 2 + 2);
        used("fun() -> 1 end", 2);
        used("X = 1, Y = {2}, fun(Z) -> {X,Y,Z,X} end", 2 + 4);
        used("fun f/1", 2);
        used("f({1})", 2);
        used("ref()", 0);
        used("X = [1,2], X ++ [3]", 4 + 2 + 4);
        used("[] ++ {1}", 2);
        used("X = [1,2,3,4], X -- [3]", 8 + 2 + 4);
        used("X = [1,2,3,4], X -- [1]", 8 + 2);
        used("X = [1,2,3,4], X -- [9]", 8 + 2);
        used("X = [1,2,3,4], X -- [4,1]", 8 + 4 + 4);
        used("catch error(x)", 3);
        used("catch exit(x)", 3);
        used("catch throw({x})", 2);
        used("catch (1 = 2)", 6);
        used("catch case 1 of 2 -> 1 end", 6);
        used("catch (x)()", 6);
        used("catch hd([])", 3);
        // GUARDS make terms, too
        used("case 1 of X when {X,X} == {1,2} -> 1; _ -> 2 end", 6);
        // patterns make none
        used("{X,[Y|Z],\"a\"} = {1,[2],\"a\"}", 4 + 2 + 2);
    }

    private static void copies() {
        House x = House.of("main() -> X = [1], Y = {X,X}, P = spawn(fun() -> receive stop -> Y end end), P ! {Y,Y}, self() ! Y, receive stop -> 1 end.");
        x.run(0);
        // 2 + 3, the FUN 2 + 1, {Y,Y} 3, and a copy of Y: 3 + 2 + 2
        House.due("the sender", x.house.process(0, 2), 2 + 3 + 3 + 3 + 7);
        // a copy of the FUN: 3 + 7; of {Y,Y}: 3 + 7 + 7
        House.due("the other one", x.house.process(1, 2), 10 + 17);
        House.due("its held name", x.show(1, 1, 0), "{[1],[1]}");
        House.due("its message", x.show(1, 0, 0), "{{[1],[1]},{[1],[1]}}");
    }

    private static void clearing() {
        House x = House.of("main() -> loop(0,[]). loop(N,_) -> loop(N + 1,{N,N,N,N}).");
        x.house.begin(0);
        x.house.go(0, 100);
        House.due("500 are used", x.house.process(0, 2), 500);
        House.due("not cleared", x.house.process(0, 3), 0);
        x.house.go(0, 1);
        // The one of the call before is not bound, the new one is made of numbers.
        House.due("cleared", x.house.process(0, 3), 1);
        House.due("what is new", x.house.process(0, 2), 5);
        House y = House.of("main() -> loop(0,[]). loop(N,A) -> loop(N + 1,{N,N,N,N}).");
        y.house.begin(0);
        y.house.go(0, 101);
        House.due("a bound name stays", y.house.process(0, 2), 10);
        x.house.go(0, 499);
        House.due("100 more each time", x.house.process(0, 3), 5);
    }

    private static void whatStays() {
        // W waits as a part, N is bound, B lies in the box, M is held by a FUN that is bound, G is gone.
        House x = House.of("main() -> {W} = {[1,2]}, {W, f(W)}.\n"
            + "f(N) -> self() ! {b}, M = {m}, F = fun() -> M end, G = 1, {[g,g,g]}, g(0,F), {N,F,G}.\n"
            + "g(80,_) -> receive stop -> 1 end; g(K,F) -> {K,K,K,K,K}, g(K + 1,F).");
        x.run(0);
        House.due("it waits", x.house.process(0, 0), 1);
        House.due("cleared once", x.house.process(0, 3), 1);
        // Before: {W} 2, [1,2] 4, {b} 2 and its copy 2, {m} 2, the FUN 3, [g,g,g] 6, {..} 2 = 23; then 6 each
        // 79 of them fit: 23 + 474 = 497; the 80th clears: 4 + 2 + 2 + 3 = 11, and 6
        House.due("what stays", x.house.process(0, 2), 17);
        House.due("a name after the clearing", x.show(0, 1, 0), null);
        House.due("the box after it", x.show(0, 0, 0), "{b}");
        House shared = House.of("main() -> X = {1,2,3,4}, Y = {X,X,X}, f(0,Y). f(100,Y) -> receive stop -> Y end; f(N,Y) -> {N,N,N,N}, f(N + 1,Y).");
        shared.run(0);
        House.due("each once", shared.house.process(0, 2) % 5, (5 + 4) % 5);
        House.due("as it was", shared.show(0, 1, 0), "{{1,2,3,4},{1,2,3,4},{1,2,3,4}}");
        // A frame that is gone leaves nothing
        House gone = House.of("main() -> f(), g(0). f() -> X = \"" + "x".repeat(40) + "\", length(X). g(90) -> receive stop -> 1 end; g(N) -> {N,N,N,N}, g(N + 1).");
        gone.run(0);
        House.due("84 of 5 fit behind 80, then 6 more", gone.house.process(0, 2), 30);
    }

    private static void tooGreat() {
        House x = House.of("main() -> print(catch grow([])), print(catch dbl({})). grow(A) -> grow([x|A]). dbl(A) -> dbl({A,A}).");
        x.run(0);
        House.due("500 cells are no more than 500", x.output(), "{error,badarg}/{error,badarg}");
        House.due("calls", x.house.count(6), 251 + 7);
        // The parts of a copy count as often as they are met: 1, 5, 13, 29, 61, 125, 253, 509
        House y = House.of("main() -> f({},0). f(A,N) -> print(N), f({A,A},N + 1).");
        y.run(0);
        House.due("how far it came", y.output(), "0/1/2/3/4/5/6");
        House.due("hardly any cells", y.house.process(0, 0), 3);
        House fun = House.of("main() -> X = mk(240,[]), F = fun() -> X end, print(catch fun() -> {X,F} end), print(catch X ++ X), print(catch [X,X]). mk(0,A) -> A; mk(N,A) -> mk(N - 1,[N|A]).");
        fun.run(0);
        House.due("of FUNS and lists", fun.output(), "{error,badarg}/{error,badarg}/{error,badarg}");
        // What is WRONG may be greater, and then it is not told by exit(P, T)
        House wrong = House.of("main() -> X = mk(250,[]), Y = (catch error(X)), print(element(1,Y)), self() ! 1. mk(0,A) -> A; mk(N,A) -> mk(N - 1,[N|A]).");
        wrong.run(0);
        House.due("no room for {error, T}", wrong.reason(0), "heap");
        House tell = House.of("main() -> X = dbl(6,{}), Y = (catch error(X)), Z = (catch error(Y)), print(catch {Z}), print(catch exit(self(),Z)), print(is_tuple(Z)).\n"
            + "dbl(0,A) -> A; dbl(N,A) -> dbl(N - 1,{A,A,1}).");
        tell.run(0);
        // 1, 6, 16, 36, 76, 156, 316 cells: 322 is told
        House.due("an exit with less", tell.reason(0) == null ? 0 : tell.reason(0).length(), 100);
    }

    private static void noRoom() {
        House x = House.of("main() -> P = spawn(fun() -> receive stop -> 1 end end), trap(true), link(P), watch(P), f(P,mk(100,[])).\n"
            + "f(P,X) -> P ! X, P ! X, print(alive(P)), P ! X, print(alive(P)), receive A -> print(A) end, receive B -> print(B) end.\n"
            + "mk(0,A) -> A; mk(N,A) -> mk(N - 1,[N|A]).");
        x.run(0);
        House.due("two fit into 500", x.output(), "true/false/{exit,<1>,heap}/{down,#0,<1>,heap}");
        House.due("it was cleared for it", x.house.process(1, 3), 1);
        House.due("its reason", x.reason(1), "heap");
        House y = House.of("main() -> f([mk(110,[])],[]). f([X],_) -> {X,self() ! X,self() ! X}. mk(0,A) -> A; mk(N,A) -> mk(N - 1,[N|A]).");
        y.run(0);
        House.due("to itself", y.reason(0), "heap");
        House z = House.of("main() -> f(mk(120,[]),mk(120,[])). f(A,B) -> catch {A}, catch [1,2,3,4,5,6,7,8], catch [1,2,3,4,5,6,7,8], {A,B}. mk(0,A) -> A; mk(N,A) -> mk(N - 1,[N|A]).");
        z.run(0);
        House.due("480 are bound, 16 at a time have room", z.reason(0), "normal");
        House w = House.of("main() -> f(mk(120,[]),mk(120,[])). f(A,B) -> [1,2,3,4,5,6,7,8|[1,2,3,4]], {A,B}. mk(0,A) -> A; mk(N,A) -> mk(N - 1,[N|A]).");
        w.run(0);
        House.due("24 more have none", w.reason(0), "heap");
        House.due("no catch helps", w.house.process(0, 3) > 0 ? 1 : 0, 1);
        House outside = House.of("main() -> f(mk(249,[])). f(A) -> receive stop -> A end. mk(0,A) -> A; mk(N,A) -> mk(N - 1,[N|A]).");
        outside.run(0);
        House.due("498 cells", outside.house.process(0, 2), 498);
        outside.house.send(0, 0, 1);
        House.due("a number needs none", outside.house.process(0, 0), 2);
        outside.house.send(0, 2, 1);
        House.due("3 cells from outside", outside.reason(0), "heap");
    }

    private static void wrongTerms() {
        // The reason of an end needs no cells, but {badmatch, T} does.
        String full = ". mk(0,A) -> A; mk(N,A) -> mk(N - 1,[N|A]).";
        House x = House.of("main() -> f(mk(250,[])). f(A) -> error(A)" + full);
        x.run(0);
        House.due("{error, T} of 500 cells", x.reason(0).substring(0, 12), "{error,[1,2,");
        House y = House.of("main() -> f(mk(250,[])). f(A) -> 1 = A" + full);
        y.run(0);
        House.due("{badmatch, T}", y.reason(0), "heap");
        House z = House.of("main() -> f(mk(250,[])). f(A) -> throw(A)" + full);
        z.run(0);
        House.due("{nocatch, T}", z.reason(0).substring(0, 12), "{nocatch,[1,");
        // What waits goes ahead of {error, T}: 400 cells wait above the catch.
        House w = House.of("main() -> print(catch f(mk(249,[]))). f(A) -> {A,hd(1)}" + full);
        w.run(0);
        House.due("frames above are gone", w.output(), "{error,badarg}");
        // but {badfun, T} is told while its ARGUMENTS still wait
        House v = House.of("main() -> catch (x)(mk(249,[]))" + full);
        v.run(0);
        House.due("arguments are still there", v.reason(0), "heap");
    }
}
