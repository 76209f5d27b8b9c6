/** Promises 8 to 11: begin, go, clock, send; receive and its time. */
public final class RunTest {
    public static void main(String[] args) {
        begin();
        go();
        lastCalls();
        stack();
        clock();
        send();
        receiving();
        times();
        box();
        House.close();
    }

    private static void begin() {
        House x = new House();
        House.due("begin without a program", x.thrownByBegin(0), "IllegalStateException");
        House.due("begin(-1) without a program", x.thrownByBegin(-1), "IllegalStateException");
        x.feed("a() -> print(a), ref(). b(_) -> b. c() -> print(c), receive after 5 -> 1 end.");
        x.house.read();
        House.due("begin(3)", x.thrownByBegin(3), "NoSuchElementException");
        House.due("begin(-1)", x.thrownByBegin(-1), "NoSuchElementException");
        House.due("begin(1)", x.thrownByBegin(1), "IllegalArgumentException");
        House.due("no run yet", x.house.count(4), 0);
        House.due("begin(0)", x.thrownByBegin(0), "nothing");
        House.due("processes", x.house.count(4), 1);
        House.due("it goes on", x.house.process(0, 0), 0);
        House.due("its frames", x.house.process(0, 1), 1);
        x.house.go(0, 9);
        x.house.clock(7);
        House.due("references", x.house.count(8), 1);
        House.due("begin(1) again", x.thrownByBegin(1), "IllegalArgumentException");
        House.due("what throws changes nothing", x.output(), "a");
        House.due("nor the clock", x.house.count(7), 7);
        x.house.begin(2);
        House.due("anew: lines", x.house.count(5), 0);
        House.due("anew: clock", x.house.count(7), 0);
        House.due("anew: references", x.house.count(8), 0);
        House.due("anew: reason", x.house.show(0, 3, 0), MailHouse.NONE);
        x.house.go(0, 9);
        House.due("anew: output", x.output(), "c");
        House.due("anew: waits", x.house.process(0, 10), 5);
    }

    private static void go() {
        House x = House.of("main() -> f(3), g(). f(0) -> 0; f(N) ->\n f(N - 1) + 1. g() -> g().");
        House.due("no process", x.thrownByGo(0, 1), "NoSuchElementException");
        House.due("n first", x.thrownByGo(0, 501), "IllegalArgumentException");
        x.house.begin(0);
        House.due("n -1", x.thrownByGo(0, -1), "IllegalArgumentException");
        House.due("n 501", x.thrownByGo(0, 501), "IllegalArgumentException");
        House.due("process 1", x.thrownByGo(1, 1), "NoSuchElementException");
        House.due("process -1", x.thrownByGo(-1, 1), "NoSuchElementException");
        House.due("go 0", x.house.go(0, 0), 0);
        House.due("it stands ahead of f", x.house.process(0, 11), 1);
        House.due("go 2", x.house.go(0, 2), 2);
        House.due("frames", x.house.process(0, 1), 3);
        House.due("ahead of f of line 2", x.house.process(0, 11), 2);
        House.due("go 0 again", x.house.go(0, 0), 0);
        House.due("go 2", x.house.go(0, 2), 2);
        House.due("the inner ones are over", x.house.process(0, 1), 1);
        House.due("calls", x.house.process(0, 9), 4);
        House.due("go 500", x.house.go(0, 500), 500);
        House.due("calls in all", x.house.count(6), 504);
        House end = House.of("main() -> 1.");
        end.run(0);
        House.due("one that has ended", end.thrownByGo(0, 0), "IllegalStateException");
        House wait = House.of("main() -> receive 1 -> 2 end.");
        wait.run(0);
        House.due("one that waits", wait.thrownByGo(0, 0), "IllegalStateException");
        House.due("n is looked at first", wait.thrownByGo(0, 600), "IllegalArgumentException");
    }

    private static void lastCalls() {
        String[] last = {"g()", "(g())", "begin 1, g() end", "case 1 of 1 -> g() end", "if true -> g() end",
            "receive after 0 -> g() end", "begin case 1 of X -> (g()) end end", "(fun g/0)()"};
        for (String body : last) {
            House x = House.of("main() -> f(). f() -> " + body + ". g() -> receive 1 -> 1 end.");
            x.run(0);
            House.due("frames of " + body, x.house.process(0, 1), 1);
        }
        String[] others = {"1 + g()", "catch g()", "X = g()", "true andalso g()", "false orelse g()", "{g()}", "begin g() end + 1",
            "g(), 1", "case g() of _ -> 1 end", "not g()", "- g()", "self() ! g()", "print(g())"};
        for (String body : others) {
            House x = House.of("main() -> f(). f() -> " + body + ". g() -> receive 1 -> 1 end.");
            x.run(0);
            House.due("frames of " + body, x.house.process(0, 1), 2);
        }
        House again = House.of("main() -> loop(0). loop(N) -> loop(N + 1).");
        again.run(0);
        House.due("no frame more", again.house.process(0, 1), 1);
    }

    private static void stack() {
        House x = House.of("main() -> f(0). f(N) -> f(N + 1) + 1.");
        x.house.begin(0);
        House.due("59 more frames and the first one anew", x.house.go(0, 60), 60);
        House.due("frames", x.house.process(0, 1), 60);
        House.due("it stops ahead of it", x.house.process(0, 0), 0);
        House.due("go 0", x.house.go(0, 0), 0);
        House.due("that call does not count", x.house.go(0, 1), 0);
        House.due("it has ended", x.reason(0), "stack");
        House.due("calls", x.house.process(0, 9), 60);
        House caught = House.of("main() -> catch f(0), print(never). f(N) -> f(N + 1) + 1.");
        caught.run(0);
        House.due("no catch helps", caught.reason(0), "stack");
        House full = House.of("main() -> f(59). f(1) -> g(); f(N) -> f(N - 1) + 1. g() -> 1.");
        full.run(0);
        House.due("a last call at 60 frames", full.reason(0), "normal");
    }

    private static void clock() {
        House x = new House();
        House.due("no run", x.thrownByClock(0), "IllegalStateException");
        House.due("too far, no run", x.thrownByClock(1000000001), "IllegalArgumentException");
        House.due("back, no run", x.thrownByClock(-1), "IllegalArgumentException");
        x.feed("a() -> print(now()).");
        x.house.read();
        x.house.begin(0);
        House.due("on", x.house.clock(999999990), 999999990);
        House.due("beyond", x.thrownByClock(11), "IllegalArgumentException");
        House.due("it stays", x.house.count(7), 999999990);
        House.due("to the end", x.house.clock(10), 1000000000);
        House.due("not at all", x.house.clock(0), 1000000000);
        x.house.go(0, 1);
        House.due("now()", x.output(), "1000000000");
    }

    private static void send() {
        House x = new House();
        House.due("no process", x.thrownBySend(0, 0, 0), "NoSuchElementException");
        x.feed("a() -> receive stop -> ok end.");
        x.house.read();
        House.due("no run", x.thrownBySend(0, 9, 0), "NoSuchElementException");
        x.house.begin(0);
        House.due("process 1", x.thrownBySend(1, 0, 0), "NoSuchElementException");
        House.due("no process goes first", x.thrownBySend(1, 7, 0), "NoSuchElementException");
        House.due("sort 3", x.thrownBySend(0, 3, 0), "IllegalArgumentException");
        House.due("sort -1", x.thrownBySend(0, -1, 0), "IllegalArgumentException");
        House.due("atom -1", x.thrownBySend(0, 1, -1), "NoSuchElementException");
        House.due("atom 24", x.thrownBySend(0, 1, 24), "NoSuchElementException");
        House.due("nothing came", x.house.process(0, 4), 0);
        x.house.send(0, 0, -7);
        x.house.send(0, 1, 3);
        x.house.send(0, 2, 5);
        House.due("a number", x.show(0, 0, 0), "-7");
        House.due("an atom", x.show(0, 0, 1), "none");
        House.due("a tuple", x.show(0, 0, 2), "{5,<0>}");
        House.due("its cells", x.house.process(0, 2), 3);
        x.house.go(0, 0);
        x.house.send(0, 1, 23);
        House.due("it may go on", x.house.process(0, 0), 2);
        x.house.go(0, 0);
        House.due("it was told to stop", x.reason(0), "normal");
        House.due("to one that has ended", x.thrownBySend(0, 0, 1), "nothing");
        House.due("nothing comes to it", x.house.process(0, 4), 0);
    }

    private static void receiving() {
        House x = House.of("main() -> receive {1,X} -> print(X) end, receive Y -> print(Y) end, receive Z when Z > 5 -> print(Z) end.");
        x.house.begin(0);
        x.house.go(0, 0);
        House.due("it waits", x.house.process(0, 0), 1);
        x.house.send(0, 0, 4);
        House.due("one has come", x.house.process(0, 0), 2);
        x.house.go(0, 0);
        House.due("it does not fit", x.house.process(0, 0), 1);
        House.due("it stays in the box", x.house.process(0, 4), 1);
        House.due("none that was not tried", x.thrownByGo(0, 0), "IllegalStateException");
        x.house.send(0, 2, 1);
        x.house.send(0, 0, 9);
        x.house.go(0, 0);
        House.due("the oldest that fits each time", x.output(), "<0>/4/9");
        House.due("all are done", x.reason(0), "normal");
        // Each message against all cases, not each case against all messages
        House.prints("self() ! a, self() ! b, receive b -> print(b); a -> print(a) end", "a");
        House.prints("self() ! {k,1}, self() ! {k,2}, K = 2, receive {k,K} -> print(K) end, receive X -> print(X) end", "2/{k,1}");
        House.prints("self() ! a, receive X when hd(X) -> 1; X when X == a -> print({X}) end", "{a}");
    }

    private static void times() {
        House x = House.of("main() -> receive {1,_} -> print(got) after 10 -> print(late) end, receive 5 -> 5 after infinity -> 1 end.");
        x.house.begin(0);
        x.house.clock(100);
        x.house.go(0, 0);
        House.due("until", x.house.process(0, 10), 110);
        x.house.clock(9);
        House.due("not yet", x.thrownByGo(0, 0), "IllegalStateException");
        x.house.send(0, 0, 1);
        x.house.go(0, 0);
        House.due("one that does not fit changes no time", x.house.process(0, 10), 110);
        x.house.clock(1);
        House.due("now", x.house.process(0, 0), 2);
        x.house.go(0, 0);
        House.due("late", x.output(), "late");
        House.due("for ever", x.house.process(0, 10), MailHouse.NONE);
        House.due("waits", x.house.process(0, 0), 1);
        House y = House.of("main() -> receive {1,_} -> print(got) after 10 -> print(late) end.");
        y.house.begin(0);
        y.house.go(0, 0);
        y.house.clock(10);
        y.house.send(0, 2, 1);
        y.house.go(0, 0);
        House.due("what fits goes ahead of the time", y.output(), "got");
        House z = House.of("main() -> receive after 2147483647 -> 1 end.");
        z.house.begin(0);
        z.house.clock(5);
        z.house.go(0, 0);
        House.due("beyond the greatest", z.house.process(0, 10), 2147483647);
        House.prints("self() ! 1, receive 2 -> print(2) after 0 -> print(none) end", "none");
        House.prints("self() ! 1, self() ! 2, receive 2 -> print(2) after 0 -> print(none) end", "2");
        House.ends("receive after -1 -> 1 end", "{error,badarg}");
        House.ends("receive after soon -> 1 end", "{error,badarg}");
        House.prints("self() ! 1, print(catch receive 1 -> 2 after [] -> 1 end), receive X -> print(X) end", "{error,badarg}/1");
        House.prints("receive after begin X = 0, X end -> print(a) end", "a");
        House empty = House.of("main() -> receive after 5 -> 1 end.");
        empty.run(0);
        empty.house.send(0, 0, 1);
        House.due("a message that is not tried yet", empty.house.process(0, 0), 2);
        empty.house.go(0, 0);
        House.due("it fits nothing", empty.house.process(0, 0), 1);
    }

    private static void box() {
        House x = House.of("main() -> receive stop -> 1 end.");
        x.house.begin(0);
        for (int i = 0; i < 33; i++) {
            x.house.send(0, i == 30 ? 2 : 0, i);
        }
        House.due("30 at most", x.house.process(0, 4), 30);
        House.due("the last one", x.show(0, 0, 29), "29");
        House.due("message 30", x.house.show(0, 0, 30), MailHouse.NONE);
        House.due("what is lost needs no cells", x.house.process(0, 2), 0);
    }
}
