/** The paragraph HEAP of the document: each sentence that names an edge, looked at on both sides of it. */
public final class EdgesOfHeapTest {
    /** mk(N, A): a list of N parts ahead of A, which has 2 * N cells; nothing else is made. */
    private static final String MAKE = " mk(0,A) -> A; mk(N,A) -> mk(N - 1,[N|A]).";
    private static final String IDLE = " idle() -> receive stop -> 1 end.";

    public static void main(String[] args) {
        fullHeap();
        whatIsWanted();
        wantedTogether();
        whatNeedsNone();
        whatCanBeReached();
        eachOnce();
        cellsAgain();
        copiesThatAreTooGreat();
        aheadOfAllThatIsWanted();
        tooGreatAndWrong();
        messagesWithoutRoom();
        reasons();
        toldWhileAllWaits();
        House.close();
    }

    /** Of f(A), with this BODY and A a list of so many cells that is used behind it: how often it was CLEARED, and how it is. */
    private static void with(int cells, String body, int cleared, String due) {
        House x = House.of("main() -> f(mk(" + cells / 2 + ",[])). f(A) -> " + body + ", receive stop -> A end. g(X) -> X." + MAKE);
        x.run(0);
        String how = x.house.process(0, 0) == 1 ? "waits" : x.reason(0);
        House.due(body + " beside " + cells + " cells", how, due);
        House.due(body + " beside " + cells + " cells: CLEARED", x.house.process(0, 3), cleared);
    }

    private static void fullHeap() {
        House.says("a HEAP of 500 cells .. If there were more than 500 with these: the heap is CLEARED");
        with(500, "1", 0, "waits");
        with(498, "[1]", 0, "waits");
        with(498, "{1}", 0, "waits");
        with(498, "{1,2}", 1, "heap");
        with(496, "{1,2,3}", 0, "waits");
        with(496, "{1,2,3,4}", 1, "heap");
        with(496, "{1}, {2}", 0, "waits");
        with(496, "{1}, {2}, {3}", 1, "waits");
        with(496, "{1}, {2}, {3}, {4}, {5}", 2, "waits");
        with(496, "{1}, {2}, {3}, {4}, {5}, {6}, {7}", 3, "waits");
        House.says("2 cells of the heap that are used (since the latest CLEARING), 3 how often it was CLEARED");
        House x = House.of("main() -> loop(0). loop(N) -> {N,N,N,N}, loop(N + 1).");
        x.house.begin(0);
        x.house.go(0, 100);
        House.due("500 are used", x.house.process(0, 2), 500);
        House.due("it was not CLEARED", x.house.process(0, 3), 0);
        x.house.go(0, 1);
        House.due("5 are used", x.house.process(0, 2), 5);
        House.due("it was CLEARED", x.house.process(0, 3), 1);
        x.house.go(0, 99);
        House.due("500 again", x.house.process(0, 2), 500);
        House.due("once as yet", x.house.process(0, 3), 1);
        x.house.go(0, 1);
        House.due("twice", x.house.process(0, 3), 2);
    }

    private static void whatIsWanted() {
        House.says("Cells are wanted for each TUPLE and FUN that is made (also {badmatch, T} and so on, {error, T}, {exit, T}");
        with(500, "{}", 1, "heap");
        with(500, "fun() -> 1 end", 1, "heap");
        with(500, "fun g/1", 1, "heap");
        with(498, "fun g/1", 0, "waits");
        with(498, "X = {}, fun g/1, X", 1, "heap");
        with(496, "X = {}, fun g/1, X", 0, "waits");
        with(498, "fun() -> 1 end", 0, "waits");
        with(496, "X = 1, Y = 2, fun() -> {X,Y} end", 0, "waits");
        with(498, "X = 1, fun() -> X end", 1, "heap");
        with(498, "catch error(x)", 1, "heap");
        with(496, "catch error(x)", 0, "waits");
        with(498, "catch exit(x)", 1, "heap");
        with(496, "catch exit(x)", 0, "waits");
        with(500, "catch throw(x)", 0, "waits");
        with(498, "catch hd([])", 1, "heap");
        with(496, "catch hd([])", 0, "waits");
        with(498, "catch (1 = 2)", 1, "heap");
        // {badmatch, 2} 3, then {error, ..} 3 more.
        with(496, "catch (1 = 2)", 1, "heap");
        with(494, "catch (1 = 2)", 0, "waits");
        with(494, "catch case 1 of 2 -> 1 end", 0, "waits");
        with(496, "catch case 1 of 2 -> 1 end", 1, "heap");
        with(494, "catch (a)()", 0, "waits");
        with(496, "catch (a)()", 1, "heap");
        with(494, "catch if false -> 1 end", 0, "waits");
        with(492, "catch (fun() -> 1 end)(1)", 0, "waits");
        // The FUN that was called is gone when {error, ..} is made: that clears.
        with(494, "catch (fun() -> 1 end)(1)", 1, "waits");
    }

    private static void wantedTogether() {
        House.says("together for all PAIRS of a [ ], STRING, ++, --, and for all of a copy");
        // Were each wanted by itself there would be a CLEARING between them, or none.
        with(484, "[1,2,3,4,5,6,7,8]", 0, "waits");
        with(486, "[1,2,3,4,5,6,7,8]", 1, "heap");
        with(492, "\"abcd\"", 0, "waits");
        with(494, "\"abcd\"", 1, "heap");
        with(490, "X = [1,2], X ++ b", 0, "waits");
        with(494, "X = [1,2], X ++ b", 1, "heap");
        with(488, "X = [1,2,3], X ++ b", 0, "waits");
        with(490, "X = [1,2,3], X ++ b", 1, "heap");
        with(480, "X = [1,2,3,4,5], X ++ X", 0, "waits");
        with(482, "X = [1,2,3,4,5], X ++ X", 1, "heap");
        with(488, "X = [1,2,3], X -- [3]", 0, "waits");
        with(490, "X = [1,2,3], X -- [3]", 1, "heap");
        with(490, "[1,2,3] -- [3]", 1, "heap");
        with(488, "[1,2,3] -- [3]", 0, "waits");
        with(492, "self() ! {1,2,3}", 0, "waits");
        // {1, 2, 3} is a part of what is to be copied: it stays as the heap is CLEARED.
        with(494, "self() ! {1,2,3}", 1, "heap");
    }

    private static void whatNeedsNone() {
        House.says("CELLS: .. others none.");
        for (String body : new String[] {"1", "a", "[]", "\"\"", "self()", "ref()", "[] ++ A", "A -- []", "hd(A)", "tl(A)", "length(A)",
            "1 + 2", "A == A", "[_|_] = A", "self() ! 1", "print(A)", "case A of [X|_] -> X end", "catch throw(A)",
            "trap(true)", "name(a,self())", "watch(self())", "unwatch(ref())", "link(self())", "now()", "if true -> 1 end", "receive 1 -> 2 after 0 -> 3 end"}) {
            with(500, body, 0, "waits");
        }
    }

    private static void whatCanBeReached() {
        House.says("what can be reached stays (from bound NAMES and waiting parts of all FRAMES, the terms that are tried, the BOX, and the parts of what is to be made or copied there), each once");
        // 480 cells are reached one way alone; 8 more are garbage, 16 are wanted: it is CLEARED, and 496 are used.
        String[] texts = {
            "main() -> X = mk(240,[]), {1,2,3,4,5,6,7}, [1,2,3,4,5,6,7,8], receive stop -> X end.",
            "main() -> {mk(240,[]), f()}. f() -> {1,2,3,4,5,6,7}, [1,2,3,4,5,6,7,8], receive stop -> 1 end.",
            "main() -> f(mk(240,[])), 1. f(X) -> g(), X. g() -> {1,2,3,4,5,6,7}, [1,2,3,4,5,6,7,8], receive stop -> 1 end.",
            "main() -> 1 + f(2, mk(240,[])). f(_,_) when {1,2,3,4,5,6,7} == 1 -> 1; f(_,X) when [1,2,3,4,5,6,7,8] /= 1 -> receive stop -> X end."};
        for (String text : texts) {
            House x = House.of(text + MAKE);
            x.run(0);
            House.due("it waits: " + text, x.house.process(0, 0), 1);
            House.due("CLEARED: " + text, x.house.process(0, 3), 1);
            House.due("used: " + text, x.house.process(0, 2), 496);
        }
        House made = House.of("main() -> [mk(241,[]), {1,2,3,4,5,6,7}, {8}|{9}]. " + MAKE.replace("mk(0,A) -> A;", "mk(0,A) -> {1,2,3}, A;"));
        made.run(0);
        // 482 + 4, then 8: 494, {8} 2, {9} 2: 498; with 6 more it is CLEARED of 4: 500.
        House.due("parts of what is to be made", made.reason(0), "normal");
        House.due("CLEARED", made.house.process(0, 3), 1);
        House box = House.of("main() -> self() ! mk(120,[]), mk(120,[]), receive stop -> 1 end." + MAKE);
        box.run(0);
        // What was sent is garbage behind it: 240 of the BOX, and the new 240; it is CLEARED in between.
        House.due("the BOX", box.house.process(0, 2) % 2 == 0 && box.house.process(0, 2) >= 480 ? 1 : 0, 1);
        House.due("its message", box.show(0, 0, 0).substring(0, 9), "[1,2,3,4,");
        House.due("CLEARED once", box.house.process(0, 3), 1);
        House gone = House.of("main() -> f(mk(240,[])), receive stop -> 1 end. f(X) -> length(X), {1,2,3,4,5,6,7}, [1,2,3,4,5,6,7,8], ok." + MAKE);
        gone.run(0);
        House.due("X was bound still", gone.house.process(0, 2), 496);
        House gone2 = House.of("main() -> f(mk(240,[])), {1,2,3,4,5,6,7}, [1,2,3,4,5,6,7,8], receive stop -> 1 end. f(X) -> length(X)." + MAKE);
        gone2.run(0);
        House.due("with its FRAME it is gone", gone2.house.process(0, 2), 16);
        House last = House.of("main() -> f(mk(240,[])). f(X) -> length(X), g(1). g(_) -> {1,2,3,4,5,6,7}, [1,2,3,4,5,6,7,8], receive stop -> 1 end." + MAKE);
        last.run(0);
        House.due("with a LAST CALL, too", last.house.process(0, 2), 16);
        House part = House.of("main() -> case mk(240,[]) of X -> length(X) end, {1,2,3,4,5,6,7}, [1,2,3,4,5,6,7,8], receive stop -> 1 end." + MAKE);
        part.run(0);
        House.due("with its part, too", part.house.process(0, 2), 16);
        House taken = House.of("main() -> self() ! mk(120,[]), receive [_|_] -> ok end, mk(120,[]), {1,2,3,4,5,6,7}, [1,2,3,4,5,6,7,8], receive stop -> 1 end." + MAKE);
        taken.run(0);
        // 480 of the list and its copy, then the second list: CLEARED at its 11th PAIR.
        House.due("what was taken out of the BOX is gone", taken.house.process(0, 2), 240 + 8 + 16);
    }

    private static void eachOnce() {
        House.says("what can be reached stays .. each once");
        House x = House.of("main() -> A = {1,2,3,4}, B = {A,A,A}, C = [B,A|B], loop(0), receive stop -> {A,B,C} end. loop(99) -> 1; loop(N) -> {N,N,N,N}, loop(N + 1).");
        x.run(0);
        // 5 + 4 + 4 = 13 stay; 97 of 5 fit into the rest.
        House.due("CLEARED once", x.house.process(0, 3), 1);
        House.due("13 and two of 5", x.house.process(0, 2), 13 + 2 * 5);
        House.due("as they were", x.show(0, 1, 2), "[{{1,2,3,4},{1,2,3,4},{1,2,3,4}},{1,2,3,4}|{{1,2,3,4},{1,2,3,4},{1,2,3,4}}]");
    }

    /** Cells that were used before are as new ones. */
    private static void cellsAgain() {
        House.says("a FUN 2 more than it holds .. (since the latest CLEARING)");
        String loop = " loop(0) -> 1; loop(N) -> {N,N,N,N}, loop(N - 1). g() -> 1.";
        House x = House.of("main() -> loop(99), X = [9,9,9], X ++ X, F = fun g/0, self() ! {F,[F|F],\"\",{}}, receive stop -> F end." + loop);
        x.run(0);
        // 495, then the 6 of X clear; 6 of ++, the FUN 2, the TUPLE with its parts 5 + 2 + 1, its copy 8 and three FUNS.
        House.due("CLEARED", x.house.process(0, 3), 1);
        House.due("used", x.house.process(0, 2), 6 + 6 + 2 + 8 + 8 + 6);
        House.due("the message", x.show(0, 0, 0), "{fun,[fun|fun],[],{}}");
        House twice = House.of("main() -> loop(250), F = fun g/0, self() ! {F,[F|F],\"\",{}}, receive stop -> F end." + loop);
        twice.run(0);
        House.due("CLEARED twice", twice.house.process(0, 3), 2);
        House.due("used then", twice.house.process(0, 2), 250 + 2 + 8 + 8 + 6);
        House.due("the message", twice.show(0, 0, 0), "{fun,[fun|fun],[],{}}");
        House y = House.of("main() -> loop(250), F = fun g/0, G = fun g/0, print(F == G), self() ! F, receive X -> print(X == F) end." + loop);
        y.run(0);
        House.due("alike", y.output(), "true/true");
    }

    private static void caught(String body, String due) {
        House x = House.of("main() -> " + body + ". g(X) -> X." + MAKE);
        x.run(0);
        House.due(body, x.output(), due);
    }

    /** As caught, but where {error, T} would have no room beside what is bound: the REASON, which needs none. */
    private static void told(String body, String due) {
        House x = House.of("main() -> " + body + ". g(X) -> X." + MAKE);
        x.run(0);
        House.due(body, x.reason(0), due);
    }

    private static void copiesThatAreTooGreat() {
        House.says("What would, as a copy, have more than 500 cells, is not made: badarg");
        String no = "{error,badarg}";
        caught("X = mk(249,[]), print(is_tuple(catch {X}))", "true");
        told("X = mk(249,[]), {1,X}", no);
        caught("X = mk(249,[]), print(length([1|X]))", "250");
        told("X = mk(250,[]), [1|X]", no);
        caught("X = mk(249,[]), print(length([X]))", "1");
        told("X = mk(249,[]), [1,X]", no);
        caught("X = mk(248,[]), Y = 1, print(is_fun(fun() -> {X,Y} end))", "true");
        caught("X = mk(248,[]), Y = 1, Z = 1, print(catch fun() -> {X,Y,Z} end)", no);
        told("X = mk(249,[]), fun() -> X end", no);
        caught("X = mk(124,[]), Y = mk(124,[]), print(catch fun() -> {X,Y} end)", "fun");
        caught("X = mk(124,[]), Y = mk(123,[]), Z = {}, print(catch fun() -> {X,Y,Z} end)", "fun");
        caught("X = mk(123,[]), Y = {X}, Z = X, print(catch fun() -> {X,Y} end)", "fun");
        // 3 + 2, and 246, 248, 1 (or 2) of what is held.
        caught("X = mk(123,[]), Y = {X}, Z = {}, print(catch fun() -> {X,Y,Z} end)", "fun");
        caught("X = mk(123,[]), Y = {X}, Z = {1}, print(catch fun() -> {X,Y,Z} end)", no);
        caught("X = mk(125,[]), print(length(X ++ X))", "250");
        caught("X = mk(126,[]), print(catch X ++ X)", no);
        // Parts count as often as they are met, though they are made once.
        caught("X = mk(124,[]), print(is_tuple({X,X}))", "true");
        // {X, X} has 3 + 496, {1, X, X} 4 + 496, {1, 2, X, X} 5 + 496.
        caught("X = mk(124,[]), print(is_tuple({1,X,X}))", "true");
        caught("X = mk(124,[]), print(catch {1,2,X,X})", no);
        // [X, X] has 4 + 496, [1, X, X] 6 + 496.
        caught("X = mk(124,[]), print(length([X,X]))", "2");
        caught("X = mk(124,[]), print(catch [1,X,X])", no);
        caught("X = mk(124,[]), F = fun() -> X end, print(is_tuple(catch {F}))", "true");
        // FUNS among parts: F has 3 + 240 cells as a copy, {F, F} 3 + 486, [F, F] 4 + 486.
        caught("X = mk(120,[]), F = fun() -> X end, print({F,F})", "{fun,fun}");
        caught("X = mk(120,[]), F = fun() -> X end, print(catch {F,F,F})", no);
        caught("X = mk(120,[]), F = fun() -> X end, print([F,F])", "[fun,fun]");
        caught("X = mk(120,[]), F = fun() -> X end, print(catch [F,F,F])", no);
        caught("X = mk(120,[]), F = fun() -> X end, T = {F}, print(catch {T,T})", "{{fun},{fun}}");
        caught("X = mk(120,[]), F = fun() -> X end, T = {F}, print(catch {T,T,F})", no);
        caught("X = mk(120,[]), F = fun() -> X end, G = fun() -> F end, print(catch {G,G})", "{fun,fun}");
        caught("X = mk(120,[]), F = fun() -> X end, G = fun() -> F end, print(catch {G,G,1,2,3,4,5})", "{fun,fun,1,2,3,4,5}");
        caught("X = mk(120,[]), F = fun() -> X end, G = fun() -> F end, print(catch {G,G,1,2,3,4,5,6})", no);
        // What waits beside it is none of its parts: B has 5 + 400 cells as a copy.
        for (String made : new String[] {"A ++ A", "[A,A]", "[A|A]", "{A,A}", "fun() -> A end", "\"" + "x".repeat(40) + "\""}) {
            caught("A = mk(50,[]), B = {A,A,A,A}, print(B == (" + made + "))", "false");
            caught("A = mk(50,[]), B = {A,A,A,A}, print(B == g(" + made + "))", "false");
        }
        // What was compared before leaves nothing behind: {B} has 2 + 493 cells.
        caught("A = mk(61,[]), B = {A,A,A,A}, X = {[1,2,3,4,5,6],1}, print(X == {[0],1}), print(is_tuple({B}))", "false/true");
        caught("A = mk(61,[]), B = {A,A,A,A}, X = {[1,2,3,4,5,6],1}, print(length([X] -- [{[0],1}])), print(is_tuple({B}))", "1/true");
    }

    private static void aheadOfAllThatIsWanted() {
        House.says("badarg (ahead of all that is wanted");
        // The heap is full, and 500 of it can be reached: were cells wanted first it would END.
        with(500, "catch throw(A), 1", 0, "waits");
        House x = House.of("main() -> f(mk(249,[])). f(A) -> {1,A}." + MAKE);
        x.run(0);
        House.due("badarg, not heap", x.reason(0), "{error,badarg}");
        House.due("it was not CLEARED", x.house.process(0, 3), 0);
        House y = House.of("main() -> f(mk(250,[])). f(A) -> A ++ A." + MAKE);
        y.run(0);
        House.due("of ++, too", y.reason(0), "{error,badarg}");
        House.due("not CLEARED", y.house.process(0, 3), 0);
        House z = House.of("main() -> f(mk(250,[])). f(A) -> fun() -> A end." + MAKE);
        z.run(0);
        House.due("of FUNS, too", z.reason(0), "{error,badarg}");
    }

    /** T is {error, X}, where X has 497 cells as a copy with part "", 498 with part "1,", and 253 in the heap. */
    private static String great(String part, String rest) {
        return "main() -> L = mk(122,[]), A = {1,L}, T = (catch error({" + part + "A,A})), " + rest + "." + IDLE + MAKE;
    }

    private static void tooGreatAndWrong() {
        House.says("(.. not of what is WRONG, and of messages); nor such a T told by exit(P, T)");
        House x = House.of(great("", "print(element(1,T)), print(catch {T})"));
        x.run(0);
        House.due("500 as {error, X}; {T} is too much", x.output(), "error/{error,badarg}");
        House y = House.of(great("1,", "U = (catch (1 = T)), print(element(1,U)), print(element(1,element(2,U))), print(catch {U})"));
        y.run(0);
        House.due("501, 504, 507 cells of what is WRONG", y.output(), "error/badmatch/{error,badarg}");
        String tell = "P = spawn(fun idle/0), print(catch exit(P,T)), print(alive(P))";
        House fits = House.of(great("", tell));
        fits.run(0);
        House.due("500 are told", fits.output(), "true/false");
        House.due("it is the REASON", fits.reason(1).substring(0, 14), "{error,{{1,[1,");
        House not = House.of(great("1,", tell));
        not.run(0);
        House.due("501 are not", not.output(), "{error,badarg}/true");
        House ended = House.of(great("1,", "print(catch exit(self(),T)), print(catch exit(T,T))"));
        ended.run(0);
        House.due("nor to oneself", ended.output(), "{error,badarg}/{error,badarg}");
        String send = "P = spawn(fun idle/0), print(is_tuple(P ! T)), print(alive(P))";
        House sent = House.of(great("1,", send));
        sent.run(0);
        House.due("a message of 501: the other one ENDS", sent.output(), "true/false");
        House.due("heap", sent.reason(1), "heap");
        House.due("it was CLEARED for it", sent.house.process(1, 3), 1);
        House exits = House.of(great("1,", "print(catch spawn(fun() -> T end))"));
        exits.run(0);
        House.due("a FUN that holds it", exits.output(), "{error,badarg}");
        // A REASON of more than 500 cells, told by a link: to one that traps as a message, without room; to others as their REASON.
        String linked = "main() -> S = self(), P = spawn(fun() -> TRAP, link(S), idle() end), idle(), L = mk(122,[]), A = {1,L}, T = (catch error({1,A,A})), exit(T)." + IDLE + MAKE;
        for (String trap : new String[] {"trap(true)", "trap(false)"}) {
            House z = House.of(linked.replace("TRAP", trap));
            z.house.begin(0);
            z.house.go(0, 9);
            z.house.go(1, 9);
            int stop = 22;
            while (!z.atom(stop).equals("stop")) {
                stop++;
            }
            z.house.send(0, 1, stop);
            z.house.go(0, 500);
            House.due("the REASON of the first one", z.reason(0).substring(0, 14), "{error,{1,{1,[");
            House.due("of the other one, " + trap, z.reason(1).substring(0, 4), trap.equals("trap(true)") ? "heap" : "{err");
        }
    }

    private static void messagesWithoutRoom() {
        House.says("A message or FUN comes to the heap of the one that gets it: if that has no room, it ENDS so (of spawn: begins, and ENDS).");
        // The other one has the FUN's 2 cells until it goes on, which nothing reaches: CLEARED, 500 have room.
        House x = House.of("main() -> P = spawn(fun idle/0), X = mk(125,[]), P ! X, P ! X, print(alive(P)), P ! [], print(alive(P)), P ! [1], print(alive(P))." + IDLE + MAKE);
        x.run(0);
        House.due("250, 500, none, 2 more", x.output(), "true/true/false");
        House.due("heap", x.reason(1), "heap");
        House.due("CLEARED for the second one and the last", x.house.process(1, 3), 2);
        House y = House.of("main() -> X = mk(123,[]), P = spawn(fun() -> X, idle() end), X2 = X, P ! X, print(alive(P)), P ! {1,2,3}, print(alive(P)), P ! {}, print(alive(P)), X2." + IDLE + MAKE);
        y.run(0);
        // 246 + 3, and 246: 495; 4: 499; 1: 500
        House.due("495, 499, 500", y.output(), "true/true/true");
        House.due("500 are used", y.house.process(1, 2), 500);
        House.due("it was not CLEARED", y.house.process(1, 3), 0);
        y.house.send(1, 0, 5);
        House.due("a number from outside needs none", y.house.process(1, 0), 0);
        y.house.send(1, 2, 5);
        // The FUN's 3 cells themselves are reached by nothing.
        House.due("3 cells that CLEARING gives", y.house.process(1, 2), 500);
        House.due("it was CLEARED", y.house.process(1, 3), 1);
        y.house.send(1, 2, 6);
        House.due("3 more", y.reason(1), "heap");
        House.due("CLEARED again", y.house.process(1, 3), 2);
        // A FUN in a message has cells, too: {F} 2 + 3, beside 490 and 494 + 2 of the other one.
        for (int n = 245; n <= 249; n++) {
            House z = House.of("main() -> P = spawn(fun() -> idle(mk(" + n + ",[])) end), receive go -> 1 after 0 -> 1 end, X = 1, F = fun() -> X end, P ! a, receive after 1 -> P ! {F} end. idle(L) -> receive stop -> L end." + MAKE);
            z.house.begin(0);
            z.settle();
            z.house.clock(1);
            z.settle();
            House.due("a FUN in a TUPLE beside " + 2 * n, z.reason(1), 2 * n + 5 <= 500 ? null : "heap");
        }
        House twice = House.of("main() -> P = spawn(fun idle/0), P ! {}, f(), P ! [[1],[2]], f(). f() -> 1." + IDLE);
        for (int run = 1; run <= 3; run++) {
            twice.house.begin(0);
            twice.house.go(0, 0);
            House.due("a FUN and {}, in run " + run, twice.house.process(1, 2), 3);
            twice.house.go(0, 500);
            House.due("and a list of two lists", twice.house.process(1, 2), 3 + 8);
        }
        House full = House.of("main() -> P = spawn(fun idle/0), spawn(fun() -> idle() end), X = mk(250,[]), length(X)." + IDLE + MAKE);
        full.run(0);
        House.due("a FUN has its copy there", full.house.process(2, 2), 2);
    }

    private static void reasons() {
        House.says("the REASON of an END needs none");
        for (String body : new String[] {"error(A)", "exit(A)", "throw(A)", "hd(1)", "1 + a"}) {
            House x = House.of("main() -> f(mk(250,[])). f(A) -> " + body + ", A." + MAKE);
            x.run(0);
            House.due(body + ": not CLEARED", x.house.process(0, 3), 0);
            House.due(body, x.reason(0).substring(0, 2), body.equals("exit(A)") ? "[1" : body.equals("throw(A)") ? "{n" : "{e");
        }
        House.says("Cells are wanted .. (also {badmatch, T} and so on");
        for (String body : new String[] {"[] = A", "case A of [] -> 1 end", "A(1)"}) {
            House x = House.of("main() -> f(mk(250,[])). f(A) -> " + body + ", A." + MAKE);
            x.run(0);
            House.due(body, x.reason(0), "heap");
            House.due(body + ": CLEARED", x.house.process(0, 3), 1);
        }
        House.says("if there are more than 500 still, the PROCESS ENDS: heap");
        House caught = House.of("main() -> catch f(mk(250,[])), print(never). f(A) -> {}, A." + MAKE);
        caught.run(0);
        House.due("no catch helps", caught.reason(0), "heap");
        House.due("nothing is done behind it", caught.output(), "");
    }

    private static void toldWhileAllWaits() {
        House.says("What goes WRONG is told while all that waits is still there (ARGUMENTS of a call, too)");
        // 496 cells wait alone as a part or ARGUMENT: 3 for {badmatch, ..} have room, then 3 for {error, ..} when they are gone.
        String[] texts = {"main() -> print(catch {mk(248,[]), 1 = 2}).", "main() -> print(catch g(mk(248,[]), 1 = 2)). g(_,X) -> X.",
            "main() -> print(catch (mk(248,[]))(1 = 2)).", "main() -> print(catch [mk(248,[])|1 = 2])."};
        for (String text : texts) {
            House x = House.of(text + MAKE);
            x.run(0);
            House.due(text, x.output(), "{error,{badmatch,2}}");
            House.due(text + " CLEARED", x.house.process(0, 3), 1);
            House y = House.of(text.replace("248", "249") + MAKE);
            y.run(0);
            House.due(text + " with 498", y.reason(0), "heap");
        }
        // {badfun, T}: the ARGUMENTS wait; {badarity, N}: the FUN, too.
        House x = House.of("main() -> print(catch a(mk(248,[]))). a(X) -> (b)(X)." + MAKE);
        x.run(0);
        House.due("badfun beside 496", x.output(), "{error,{badfun,b}}");
        House y = House.of("main() -> print(catch (b)(mk(249,[])))." + MAKE);
        y.run(0);
        House.due("badfun beside 498", y.reason(0), "heap");
        House z = House.of("main() -> print(catch (fun() -> 1 end)(mk(247,[])))." + MAKE);
        z.run(0);
        House.due("badarity beside 494 and a FUN", z.output(), "{error,{badarity,1}}");
        House w = House.of("main() -> print(catch (fun() -> 1 end)(mk(248,[])))." + MAKE);
        w.run(0);
        House.due("badarity beside 496 and a FUN", w.reason(0), "heap");
        // PREDEFINED ones need no term with theirs.
        House v = House.of("main() -> print(catch element(mk(249,[]),{}))." + MAKE);
        v.run(0);
        House.due("badarg beside 499", v.output(), "{error,badarg}");
    }
}
