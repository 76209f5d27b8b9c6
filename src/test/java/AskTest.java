/** Promises 12 to 17: process, frame, link, show, shown, printed. */
public final class AskTest {
    public static void main(String[] args) {
        beforeItGoesOn();
        aheadOfACall();
        aheadOfAFun();
        waiting();
        ended();
        names();
        held();
        wrongAsked();
        lines();
        House.close();
    }

    private static void process(House x, int p, int... due) {
        for (int what = 0; what < due.length; what++) {
            House.due("process(" + p + ", " + what + ")", x.house.process(p, what), due[what]);
        }
        House.due("process(" + p + ", 12)", x.house.process(p, 12), MailHouse.NONE);
        House.due("process(" + p + ", -1)", x.house.process(p, -1), MailHouse.NONE);
    }

    private static void frame(House x, int p, int i, int... due) {
        for (int what = 0; what < due.length; what++) {
            House.due("frame(" + p + ", " + i + ", " + what + ")", x.house.frame(p, i, what), due[what]);
        }
        House.due("frame(" + p + ", " + i + ", 4)", x.house.frame(p, i, 4), MailHouse.NONE);
        House.due("frame(" + p + ", " + i + ", -1)", x.house.frame(p, i, -1), MailHouse.NONE);
    }

    private static void beforeItGoesOn() {
        House x = House.of("other() -> 1.\nmain() -> X = {1}, Y = 2, spawn(fun() -> {Y,X} end), spawn(fun other/0), X = Y.");
        x.house.begin(1);
        process(x, 0, 0, 1, 0, 0, 0, 0, 0, 0, -1, 0, -1, 0);
        frame(x, 0, 0, 1, 0, 0, 0);
        x.house.go(0, 0);
        // FUN 4 with {1}: 2 more
        process(x, 1, 0, 1, 6, 0, 0, 0, 0, 0, -1, 0, -1, 0);
        frame(x, 1, 0, -1, 0, 2, 0);
        House.due("the first that is held", x.show(1, 1, 0), "2");
        House.due("the second one", x.show(1, 1, 1), "{1}");
        frame(x, 2, 0, 0, 0, 0, 0);
        House.due("a FUN of an ATOM", x.house.process(2, 2), 2);
    }

    private static void aheadOfACall() {
        House x = House.of("main() -> A = 1,\n {A,[2,{3}|f(\n4,\nf(5,6))]}.\nf(B,C) ->\n case {B,C} of {D,E} ->\n  D + g(E) end.\ng(_) -> 7.");
        x.house.begin(0);
        x.house.go(0, 0);
        // f(5,6) would begin: A, 2, {3}, 4 and both ARGUMENTS wait
        process(x, 0, 0, 1, 2, 0, 0, 0, 0, 0, -1, 0, -1, 4);
        frame(x, 0, 0, 0, 1, 1, 6);
        House.due("the oldest", x.show(0, 2, 0), "1");
        House.due("a part", x.show(0, 2, 2), "{3}");
        House.due("the last argument", x.show(0, 2, 5), "6");
        House.due("none behind", x.show(0, 2, 6), null);
        House.due("go 1", x.house.go(0, 1), 1);
        process(x, 0, 0, 2, 5, 0, 0, 0, 0, 0, -1, 1, -1, 7);
        frame(x, 0, 0, 1, 5, 4, 2);
        frame(x, 0, 1, 0, 1, 1, 4);
        House.due("frame 2", x.house.frame(0, 2, 0), MailHouse.NONE);
        House.due("frame -1", x.house.frame(0, -1, 0), MailHouse.NONE);
        House.due("its names", x.show(0, 1, 0) + x.show(0, 1, 1) + x.show(0, 1, 2) + x.show(0, 1, 3), "5656");
        House.due("name 4", x.show(0, 1, 4), null);
        House.due("D waits", x.show(0, 2, 0), "5");
        House.due("E is an argument", x.show(0, 2, 1), "6");
        x.house.go(0, 500);
        House.due("calls", x.house.process(0, 9), 4);
    }

    private static void aheadOfAFun() {
        House x = House.of("main() -> F = fun(X) -> X end,\n{0,\nF\n(1)}, ok,\n(fun(Y) ->\n F(Y) end)(2).");
        x.house.begin(0);
        x.house.go(0, 0);
        House.due("the line of the PRIMARY", x.house.process(0, 11), 3);
        frame(x, 0, 0, 0, 1, 1, 3);
        House.due("the FUN waits, too", x.show(0, 2, 1), "fun");
        House.due("its argument", x.show(0, 2, 2), "1");
        x.house.go(0, 1);
        House.due("the line of (", x.house.process(0, 11), 5);
        x.house.go(0, 1);
        House.due("in the FUN", x.house.process(0, 11), 6);
        frame(x, 0, 0, -1, 5, 2, 2);
        House.due("what it holds comes first", x.show(0, 1, 0), "fun");
        House.due("then its PATTERNS", x.show(0, 1, 1), "2");
        House.due("in place of main", x.house.process(0, 1), 1);
        // The line of the outer call is that of the first token
        House y = House.of("main() -> 1,\nf()\n().\nf() -> fun f/0.");
        y.house.begin(0);
        y.house.go(0, 1);
        House.due("f()()", y.house.process(0, 11), 2);
        House.due("of FUNCTION f", y.house.process(0, 1), 1);
        y.house.go(0, 1);
        House.due("it is over", y.reason(0), "normal");
    }

    private static void waiting() {
        House x = House.of("main() -> trap(true), name(ok,self()), P = spawn(fun() -> receive stop -> 1 end end), link(P), watch(P), watch(P),\n"
            + " {a, receive stop -> 1 after 20 -> 2 end}.");
        x.house.begin(0);
        x.house.clock(3);
        x.house.go(0, 9);
        // The FUN has 2 cells
        process(x, 0, 1, 1, 2, 0, 0, 1, 2, 1, 2, 0, 23, 0);
        frame(x, 0, 0, 0, 1, 1, 1);
        House.due("what waits", x.show(0, 2, 0), "a");
        x.house.send(0, 2, 9);
        process(x, 0, 2, 1, 5, 0, 1, 1, 2, 1, 2, 0, 23, 0);
        House.due("the message", x.show(0, 0, 0), "{9,<0>}");
        x.house.go(0, 9);
        process(x, 0, 1, 1, 5, 0, 1, 1, 2, 1, 2, 0, 23, 0);
        x.house.clock(20);
        process(x, 0, 2, 1, 5, 0, 1, 1, 2, 1, 2, 0, 23, 0);
    }

    private static void ended() {
        House x = House.of("main() -> trap(true), name(ok,self()), P = spawn(fun() -> receive stop -> 1 end end), link(P), watch(P), self() ! {1}, f(0).\n"
            + "f(120) -> exit({bye}); f(N) -> {N,N,N,N}, f(N + 1).");
        x.run(0);
        process(x, 0, 3, 0, 0, 1, 0, 0, 0, 0, -1, 121, -1, 0);
        House.due("no frame", x.house.frame(0, 0, 0), MailHouse.NONE);
        House.due("no link", x.house.link(0, 0), MailHouse.NONE);
        House.due("no message", x.show(0, 0, 0), null);
        House.due("no name", x.show(0, 1, 0), null);
        House.due("nothing waits", x.show(0, 2, 0), null);
        House.due("its reason", x.reason(0), "{bye}");
        House.due("reason 1", x.show(0, 3, 1), null);
        House.due("its child", x.reason(1), "{bye}");
        process(x, 1, 3, 0, 0, 0, 0, 0, 0, 0, -1, 0, -1, 0);
    }

    private static void names() {
        // S binds ahead of L; what is bound in parts is gone behind them.
        House x = House.of("main() -> {A,B} = {1,C = 2}, case 3 of D -> D end, begin E = 4, E end, true andalso (F = true), (catch G = 5),"
            + " receive after H = 0 -> I = 6, I end, K = 7, f(). f() -> 1.");
        x.house.begin(0);
        x.house.go(0, 0);
        House.due("names", x.house.frame(0, 0, 2), 4);
        House.due("as they were bound", x.show(0, 1, 0) + x.show(0, 1, 1) + x.show(0, 1, 2) + x.show(0, 1, 3), "2127");
        House y = House.of("main() -> case {1,2} of {A,3} -> A; {A,B} when A > B -> A; {B,2} -> {f(B)} end. f(X) -> X.");
        y.house.begin(0);
        y.house.go(0, 0);
        House.due("of the one that fits alone", y.house.frame(0, 0, 2), 1);
        House.due("it", y.show(0, 1, 0), "1");
        House z = House.of("main() -> X = 1, (true andalso begin Y = 2, f(Y) end) == f(X). f(_) -> true.");
        z.house.begin(0);
        z.house.go(0, 0);
        House.due("in the second one", z.house.frame(0, 0, 2), 2);
        z.house.go(0, 1);
        House.due("behind it", z.house.frame(0, 0, 2), 1);
    }

    private static void held() {
        // In the order in which they stand first, not in which they are worked out
        House x = House.of("main() -> A = 1, B = 2, C = 3, F = fun(D) -> {C,D} = {B,A}, g(D) end, F(4). g(_) -> 1.");
        x.house.begin(0);
        x.house.go(0, 0);
        House.due("cells of the FUN", x.house.process(0, 2), 5);
        x.house.go(0, 1);
        House.due("it went wrong", x.reason(0), "{error,{badmatch,{2,1}}}");
        House y = House.of("main() -> A = 1, B = 2, C = 3, F = fun(D) -> {C,E} = {3,{B,A}}, g(D,E) end, F(4). g(_,_) -> 1.");
        y.house.begin(0);
        y.house.go(0, 1);
        House.due("names", y.show(0, 1, 0) + y.show(0, 1, 1) + y.show(0, 1, 2) + y.show(0, 1, 3) + y.show(0, 1, 4), "3214{2,1}");
        // What an inner fun holds its outer one holds, too; what is hidden is not held.
        House z = House.of("main() -> A = 1, B = 2, F = fun(B) -> fun(C) -> {A,B,C,g()} end end, F(5)(6). g() -> 1.");
        z.house.begin(0);
        z.house.go(0, 1);
        House.due("the inner one waits", z.show(0, 2, 0), "fun");
        House.due("cells: 3, and 4", z.house.process(0, 2), 7);
        z.house.go(0, 1);
        House.due("held and bound", z.show(0, 1, 0) + z.show(0, 1, 1) + z.show(0, 1, 2), "156");
    }

    private static void wrongAsked() {
        House x = House.of("main() -> X = abc, receive X -> X end.");
        x.run(0);
        House.due("show", x.house.show(0, 1, 0), 3);
        int[][] none = {{1, 1, 0}, {-1, 1, 0}, {0, 4, 0}, {0, -1, 0}, {0, 1, 1}, {0, 1, -1}, {0, 0, 0}, {0, 2, 0}, {0, 3, 0},
            {0, 0, -1}, {0, 2, 2147483647}, {0, 1, -2147483648}, {24, 0, 0}};
        for (int[] asked : none) {
            House.due("show(" + asked[0] + ", " + asked[1] + ", " + asked[2] + ")", x.house.show(asked[0], asked[1], asked[2]), MailHouse.NONE);
        }
        House.due("shown stays", x.house.shown(0), 'a');
        House.due("its last", x.house.shown(2), 'c');
        House.due("behind it", x.house.shown(3), MailHouse.NONE);
        House.due("ahead of it", x.house.shown(-1), MailHouse.NONE);
        House.due("far behind", x.house.shown(2147483647), MailHouse.NONE);
        House.due("process 1", x.house.process(1, 0), MailHouse.NONE);
        House.due("process -1", x.house.process(-1, 0), MailHouse.NONE);
        House.due("frame of process 1", x.house.frame(1, 0, 0), MailHouse.NONE);
        House.due("frame 1", x.house.frame(0, 1, 0), MailHouse.NONE);
        House.due("frame of what 4", x.house.frame(0, 0, 4), MailHouse.NONE);
    }

    private static void lines() {
        House x = House.of("main() -> print(a), print({}), print(-10).");
        x.run(0);
        House.due("lines", x.output(), "a/{}/-10");
        House.due("printed(2, 0)", x.house.printed(2, 0), '-');
        House.due("printed(2, 3)", x.house.printed(2, 3), MailHouse.NONE);
        House.due("printed(3, 0)", x.house.printed(3, 0), MailHouse.NONE);
    }
}
