/** Promises 9, 12, 14 and 15: ends, links, watches, signals, names, and how many processes there may be. */
public final class EndsTest {
    public static void main(String[] args) {
        links();
        signals();
        exitOther();
        watches();
        manyWatches();
        oneAfterAnother();
        names();
        processes();
        reasons();
        House.close();
    }

    /** A child that waits for a message T and then exits with it. */
    private static final String CHILD = " child() -> receive {die,T} -> exit(T) end.";

    private static void links() {
        House x = House.of("main() -> A = spawn(fun child/0), B = spawn(fun child/0), link(B), link(A), link(A), link(self()),"
            + " receive go -> unlink(B), unlink(B), unlink(self()), receive go -> 1 end end." + CHILD);
        x.run(0);
        House.due("links", x.house.process(0, 5), 2);
        House.due("link 0", x.house.link(0, 0), 2);
        House.due("link 1", x.house.link(0, 1), 1);
        House.due("link 2", x.house.link(0, 2), MailHouse.NONE);
        House.due("link -1", x.house.link(0, -1), MailHouse.NONE);
        House.due("of no process", x.house.link(3, 0), MailHouse.NONE);
        House.due("the other way", x.house.link(2, 0), 0);
        House.due("the child's", x.house.process(1, 5), 1);
        int go = 22;
        while (!x.atom(go).equals("go")) {
            go++;
        }
        x.house.send(0, 1, go);
        x.house.go(0, 9);
        House.due("unlinked", x.house.process(0, 5), 1);
        House.due("unlinked there", x.house.process(2, 5), 0);
        House.due("link 0 then", x.house.link(0, 0), 1);
        House.ends("link(1)", "{error,badarg}");
        House.ends("unlink(a)", "{error,badarg}");
    }

    private static void signals() {
        String start = "main() -> P = spawn(fun child/0), link(P), ";
        House normal = House.of(start + "P ! {die,normal}, receive stop -> 1 end." + CHILD);
        normal.house.begin(0);
        normal.settle();
        House.due("normal ends nobody", normal.house.process(0, 0), 1);
        House.due("but the link is gone", normal.house.process(0, 5), 0);
        House other = House.of(start + "P ! {die,{x,[y]}}, receive stop -> 1 end." + CHILD);
        other.house.begin(0);
        other.settle();
        House.due("with the same reason", other.reason(0), "{x,[y]}");
        House.due("its own", other.reason(1), "{x,[y]}");
        House trapping = House.of("main() -> trap(true), P = spawn(fun child/0), link(P), P ! {die,normal}, Q = spawn(fun child/0), link(Q), Q ! {die,{x}},"
            + " receive A -> print(A) end, receive B -> print(B) end." + CHILD);
        trapping.house.begin(0);
        trapping.settle();
        House.due("one that traps", trapping.output(), "{exit,<1>,normal}/{exit,<2>,{x}}");
        House ended = House.of("main() -> P = spawn(fun() -> 1 end), receive 1 -> link(P), print(never) end.");
        ended.house.begin(0);
        ended.settle();
        ended.house.send(0, 0, 1);
        ended.settle();
        House.due("a link to one that has ended", ended.reason(0), "none");
        House endedTrap = House.of("main() -> P = spawn(fun() -> 1 end), receive 1 -> trap(true), print(link(P)), receive X -> print(X) end end.");
        endedTrap.house.begin(0);
        endedTrap.settle();
        endedTrap.house.send(0, 0, 1);
        endedTrap.settle();
        House.due("the same, trapping", endedTrap.output(), "true/{exit,<1>,none}");
        House.prints("print([trap(true), trap(true), trap(false), trap(false)])", "[false,true,true,false]");
        House.ends("trap(1)", "{error,badarg}");
    }

    private static void exitOther() {
        String start = "main() -> P = spawn(fun() -> trap(TRAPS), receive X -> exit({got,X}) end end), receive go -> 1 end,";
        House plain = told(start.replace("TRAPS", "false"), "exit(P,{x})");
        House.due("it ends so", plain.reason(1), "{x}");
        House.due("who told it goes on", plain.reason(0), "normal");
        House normal = told(start.replace("TRAPS", "false"), "exit(P,normal)");
        House.due("normal does nothing", normal.house.process(1, 0), 1);
        House trapped = told(start.replace("TRAPS", "true"), "exit(P,{x})");
        House.due("one that traps", trapped.reason(1), "{got,{exit,<0>,{x}}}");
        House killed = told(start.replace("TRAPS", "true"), "exit(P,kill)");
        House.due("kill", killed.reason(1), "killed");
        House linked = told(start.replace("TRAPS", "true"), "link(P), exit(P,kill), print(never)");
        House.due("killed is a reason like others", linked.reason(0), "killed");
        House.due("at once", linked.output(), "");
        House.ends("exit(self(),x), print(never)", "x");
        House.ends("exit(self(),normal), exit(y)", "normal");
        House.ends("exit(self(),kill), exit(y)", "killed");
        House.ends("exit(a,kill)", "{error,badarg}");
        House.prints("trap(true), print(exit(self(),{x})), receive X -> print(X) end", "true/{exit,<0>,{x}}");
        House.prints("trap(true), exit(self(),normal), receive X -> print(X) end", "{exit,<0>,normal}");
        House.prints("trap(true), exit(self(),kill), print(never)", "");
        House gone = House.of("main() -> P = spawn(fun() -> 1 end), receive 1 -> print({exit(P,kill),exit(P,x),P ! 1}) end.");
        gone.house.begin(0);
        gone.settle();
        gone.house.send(0, 0, 1);
        gone.settle();
        House.due("to one that has ended", gone.output(), "{true,true,1}");
        House.due("its reason stays", gone.reason(1), "normal");
    }

    /** Lets both wait, then tells main to go on. */
    private static House told(String start, String rest) {
        House x = House.of(start + rest + ".");
        x.house.begin(0);
        x.settle();
        int go = 22;
        while (!x.atom(go).equals("go")) {
            go++;
        }
        x.house.send(0, 1, go);
        x.settle();
        return x;
    }

    private static void watches() {
        House x = House.of("main() -> P = spawn(fun child/0), R = watch(P), S = watch(P), T = watch(P), print({R,S,T}), unwatch(S), unwatch(ref()),"
            + " P ! {die,{x}}, receive A -> print(A) end, receive B -> print(B) end, print(watch(P)), receive C -> print(C) end, print(watch(self()))." + CHILD);
        x.house.begin(0);
        x.house.go(0, 0);
        House.due("watches", x.house.process(0, 6), 2);
        House.due("of the other one", x.house.process(1, 6), 0);
        x.settle();
        House.due("what it hears", x.output(), "{#0,#1,#2}/{down,#0,<1>,{x}}/{down,#2,<1>,{x}}/#4/{down,#4,<1>,none}/#5");
        House.due("references", x.house.count(8), 6);
        House.due("it did not end by it", x.reason(0), "normal");
        House.ends("watch(1)", "{error,badarg}");
        House.ends("unwatch(1)", "{error,badarg}");
        // Not another's watch
        House y = House.of("main() -> P = spawn(fun child/0), R = watch(P), spawn(fun() -> unwatch(R) end), receive go -> 1 end." + CHILD);
        y.house.begin(0);
        y.settle();
        House.due("it stays", y.house.process(0, 6), 1);
        // Those of one that ends go
        House z = House.of("main() -> P = spawn(fun child/0), spawn(fun() -> watch(P), 1 end), P ! {die,x}, receive go -> 1 end." + CHILD);
        z.house.begin(0);
        z.house.go(0, 0);
        z.house.go(2, 0);
        z.house.go(1, 0);
        House.due("nothing comes to it", z.reason(2), "normal");
    }

    private static void manyWatches() {
        House x = House.of("main() -> P = spawn(fun child/0), w(P,0), unwatch(watch(P)), unwatch(ref()), print(catch watch(P))."
            + " w(_,199) -> ok; w(P,N) -> watch(P), w(P,N + 1)." + CHILD);
        x.run(0);
        House.due("200 are not too many", x.output(), "#201");
        House y = House.of("main() -> P = spawn(fun child/0), w(P,0), print(catch watch(P)), print(ref())."
            + " w(_,200) -> ok; w(P,N) -> watch(P), w(P,N + 1)." + CHILD);
        y.run(0);
        House.due("one more is", y.output(), "{error,badarg}/#200");
    }

    private static void oneAfterAnother() {
        // 0 - 1, 0 - 2, 1 - 3: the end of 1 ends 0 and 3, that of 0 then 2; 4 watches all and hears in that order.
        House x = House.of("main() -> A = spawn(fun idle/0), B = spawn(fun idle/0), C = spawn(fun idle/0), S = self(),"
            + " link(A), link(B), A ! {link,C}, spawn(fun() -> watch(B), watch(C), watch(S), watch(A), exit(A,boom), hear() end), idle().\n"
            + "idle() -> receive {link,P} -> link(P), idle() end.\n"
            + "hear() -> receive {down,_,P,R} -> print({P,R}), hear() end.");
        x.house.begin(0);
        x.house.go(0, 9);
        x.house.go(1, 9);
        x.house.go(4, 9);
        House.due("the order", x.output(), "{<1>,boom}/{<0>,boom}/{<3>,boom}/{<2>,boom}");
        House.due("all have ended", x.reason(2), "boom");
        // Links come ahead of watches
        House y = House.of("main() -> trap(true), P = spawn(fun child/0), watch(P), link(P), P ! {die,x}, receive A -> print(A) end, receive B -> print(B) end." + CHILD);
        y.house.begin(0);
        y.settle();
        House.due("links first", y.output(), "{exit,<1>,x}/{down,#0,<1>,x}");
    }

    private static void names() {
        House.prints("print([named(a), name(a,self()), named(a), catch name(a,self()), catch name(b,self()), unname(a), named(a), catch unname(a)])",
            "[none,true,<0>,{error,badarg},{error,badarg},true,none,{error,badarg}]");
        House.prints("name(me,self()), print(me ! {x}), receive X -> print(X) end", "{x}/{x}");
        House.ends("name(1,self())", "{error,badarg}");
        House.ends("name(a,b)", "{error,badarg}");
        House.ends("named(1)", "{error,badarg}");
        House.ends("unname({})", "{error,badarg}");
        House.ends("alive(a)", "{error,badarg}");
        House x = House.of("main() -> P = spawn(fun() -> 1 end), name(ok,P), print({named(ok),alive(P)}), receive 1 -> 1 end,"
            + " print({named(ok),alive(P),catch name(ok,P)}), print(name(ok,self())).");
        x.house.begin(0);
        x.house.go(0, 0);
        House.due("its name", x.house.process(1, 8), 2);
        House.due("no name", x.house.process(0, 8), MailHouse.NONE);
        x.house.go(1, 0);
        House.due("none of one that has ended", x.house.process(1, 8), MailHouse.NONE);
        x.house.send(0, 0, 1);
        x.house.go(0, 0);
        House.due("the name is free again", x.output(), "{<1>,true}/{none,false,{error,badarg}}/true");
    }

    private static void processes() {
        House x = House.of("main() -> s(0). s(N) -> print(catch spawn(fun() -> N end)), s(N + 1).");
        x.house.begin(0);
        x.house.go(0, 25);
        House.due("processes", x.house.count(4), 24);
        House.due("the last one", x.line(22), "<23>");
        House.due("one more", x.line(23), "{error,badarg}");
        House.ends("spawn(1)", "{error,badarg}");
        House.ends("spawn(fun(X) -> X end)", "{error,badarg}");
        House y = House.of("main() -> spawn(fun one/1). one(X) -> X.");
        y.run(0);
        House.due("a FUN with PATTERNS", y.reason(0), "{error,badarg}");
        House z = House.of("main() -> spawn(fun() when 1 == 2 -> 1 end).");
        z.house.begin(0);
        z.settle();
        House.due("its clauses are tried when it goes on", z.reason(1), "{error,function_clause}");
    }

    private static void reasons() {
        // A reason that was told stays, though the teller clears its heap.
        House x = House.of("main() -> P = spawn(fun child/0), exit(P,{a,[b,c]}), loop(0). loop(300) -> ok; loop(N) -> {N,N,N,N}, loop(N + 1)." + CHILD);
        x.run(0);
        House.due("it was cleared", x.house.process(0, 3) > 0 ? 1 : 0, 1);
        House.due("the reason", x.reason(1), "{a,[b,c]}");
        House.due("what of one that goes on", x.house.show(0, 3, 1), MailHouse.NONE);
    }
}
