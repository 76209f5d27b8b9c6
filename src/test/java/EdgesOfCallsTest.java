/** Promises 1 to 17: each sentence that names an edge or a refused call, looked at on both sides of it. */
public final class EdgesOfCallsTest {
    private static final int NONE = MailHouse.NONE;
    private static final int[] FAR = {-1, -2, -2147483648, 2147483647, 1000000, 65536};

    public static void main(String[] args) {
        aNewObject();
        feed();
        back();
        read();
        readAgain();
        readMuch();
        count();
        referencesMade();
        function();
        letter();
        begin();
        go();
        clock();
        send();
        process();
        frame();
        link();
        show();
        printed();
        refusedCallsChangeNothing();
        House.close();
    }

    private static void aNewObject() {
        House.says("An empty tape, no program.");
        House x = new House();
        for (int what = 0; what <= 8; what++) {
            House.due("count(" + what + ")", x.house.count(what), 0);
        }
        House.due("no FUNCTION", x.house.function(0, 0), NONE);
        House.due("no ATOM", x.house.letter(0, 0), NONE);
        House.due("no program", x.thrownByBegin(0), "IllegalStateException");
        House.due("no PROCESS", x.thrownByGo(0, 0), "NoSuchElementException");
        House.due("no PROCESS to send to", x.thrownBySend(0, 0, 0), "NoSuchElementException");
        House.due("no run", x.thrownByClock(0), "IllegalStateException");
        House.due("no PROCESS", x.house.process(0, 0), NONE);
        House.due("no FRAME", x.house.frame(0, 0, 0), NONE);
        House.due("no LINK", x.house.link(0, 0), NONE);
        House.due("nothing to show", x.house.show(0, 3, 0), NONE);
        House.due("nothing SHOWN", x.house.shown(0), NONE);
        House.due("no OUTPUT", x.house.printed(0, 0), NONE);
        House.due("nothing to take back", x.house.back(1), NONE);
        House.due("NONE", NONE, -1);
        House.due("an object has its own tape", x.house.feed(0, 0, 0, 0, 0), 20);
        House.due("another one", new MailHouse().count(3), 0);
    }

    private static void feed() {
        House.says("Twenty bytes come behind the tape, the highest of each int first: how many it has; NONE, and nothing comes, if it would have more than 4,000.");
        House x = new House();
        // abcd() -> {efgh,ijkl}.  with blanks between
        House.due("20", x.house.feed(0x61626364, 0x2829202d, 0x3e207b65, 0x6667682c, 0x696a6b6c), 20);
        House.due("40", x.house.feed(0x7d2e2020, 0x20202020, 0x20202020, 0x20202020, 0x20202020), 40);
        House.due("read", x.house.read(), 0);
        House.due("its ATOMS", x.atom(22) + x.atom(23) + x.atom(24), "abcdefghijkl");
        House high = new House();
        high.house.feed(0x61282920, 0x2d3e2031, 0x2e0a80ff, -1, -1);
        House.due("bytes above 127 are bytes, too", high.house.read(), 1 + 16 * 2);
        Counted full = new Counted();
        for (int i = 1; i < 200; i++) {
            full.feed(i, i, i, i, i);
        }
        House.due("3,980", full.count(3), 3980);
        House.due("4,000", full.feed(1, 2, 3, 4, 5), 4000);
        House.due("4,020", full.feed(1, 2, 3, 4, 5), NONE);
        House.due("still 4,000", full.count(3), 4000);
        for (int gone = 1; gone < 20; gone++) {
            House.due("back", full.back(1), 4000 - gone);
            House.due("more than 4,000 by " + (20 - gone), full.feed(1, 2, 3, 4, 5), NONE);
            House.due("nothing came", full.count(3), 4000 - gone);
        }
        House.due("back", full.back(1), 3980);
        House.due("4,000 again", full.feed(1, 2, 3, 4, 5), 4000);
    }

    private static void back() {
        House.says("The last n bytes of the tape go: how many it has; NONE, and none go, if it has less, or n is below 0.");
        House x = new House().feed("a() -> 12.xyz");
        House.due("0", x.house.back(0), 13);
        House.due("-1", x.house.back(-1), NONE);
        House.due("-2147483648", x.house.back(-2147483648), NONE);
        House.due("14", x.house.back(14), NONE);
        House.due("2147483647", x.house.back(2147483647), NONE);
        House.due("none went", x.house.count(3), 13);
        House.due("3", x.house.back(3), 10);
        House.due("what is left is read", x.house.read(), 0);
        House.due("its tokens", x.house.count(0), 6);
        x.feed("abc");
        House.due("all of it", x.house.back(3), 0);
        House.due("one more", x.house.back(1), NONE);
        House.due("none", x.house.back(0), 0);
        // New bytes come in place of those that went.
        x.feed("a() -> 12.").house.back(2);
        x.feed("3.");
        x.house.read();
        x.house.begin(0);
        House.due("a() -> 13.", x.house.count(0), 6);
    }

    private static void read() {
        House.says("The tape's text becomes the program, the tape is empty then: 0; or its fault and 16 * its line (there is no program then). No run has begun.");
        House x = House.of("a() -> print(b), receive stop -> 1 end.");
        House.due("the tape is empty", x.house.count(3), 0);
        x.house.begin(0);
        x.house.go(0, 0);
        x.house.clock(3);
        x.feed("c() -> 1. d() -> 2.");
        House.due("feeding does not disturb the run", x.output(), "b");
        House.due("nor the program", x.house.count(1), 1);
        House.due("a new program", x.house.read(), 0);
        House.due("the tape is empty again", x.house.count(3), 0);
        House.due("two FUNCTIONS", x.house.count(1), 2);
        for (int what = 4; what <= 8; what++) {
            House.due("no run: count(" + what + ")", x.house.count(what), 0);
        }
        House.due("no PROCESS", x.house.process(0, 0), NONE);
        House.due("no OUTPUT", x.house.printed(0, 0), NONE);
        House.due("no run", x.thrownByClock(1), "IllegalStateException");
        House.due("no PROCESS to go on", x.thrownByGo(0, 1), "NoSuchElementException");
        x.house.begin(1);
        x.feed("\n\nc() -> X.");
        House.due("a fault", x.house.read(), 5 + 16 * 3);
        House.due("the tape is empty", x.house.count(3), 0);
        House.due("no program", x.thrownByBegin(0), "IllegalStateException");
        House.due("no PROCESS", x.house.process(0, 0), NONE);
        for (int what = 0; what <= 8; what++) {
            House.due("count(" + what + ")", x.house.count(what), 0);
        }
        House.due("an empty tape has a fault, too", x.house.read(), 18);
        House.due("the line of fault 8 is 0", House.fault("a() -> 1" + ",1".repeat(900) + "."), 8);
    }

    private static String row(String ahead, int count, String behind) {
        StringBuilder text = new StringBuilder();
        for (int i = 0; i < count; i++) {
            text.append(ahead).append(i).append(behind);
        }
        return text.toString();
    }

    /** Two texts that need all of the tape, or all that a text may have, one behind the other. */
    private static void readMuch() {
        String[] texts = {"a()->1" + ",1".repeat(746) + ".", "a()->X=1" + ",X".repeat(744) + ".", "a()->" + "(1)*".repeat(370) + "1.", "a()->" + "fun()->1 end,".repeat(140) + "1.",
            "a()->\"" + "x".repeat(40) + "\"" + ",\"yyyyyyyyyyyyyyyyyyyyyyyyyyyyyyyyyyyyyyyy\"".repeat(70) + ".",
            row("f", 60, "(X)->X+1."), row("f", 61, "(X)->X+1."), "a()->true" + " andalso true orelse false".repeat(140) + ".", "a()->" + "[a|{".repeat(11) + "1" + "}]".repeat(11) + ".",
            "a()->1" + row(",b", 170, "") + "."};
        for (String text : texts) {
            House x = new House();
            for (int n = 0; n < 4 && x.house.left() > text.length() / 20 + 5; n++) {
                x.feed(text);
                House.due("read " + n + " of " + text, x.house.read(), text.contains("f60") ? 8 : 0);
            }
        }
        // The greatest texts leave as much room as there was.
        House great = new House();
        for (int n = 0; n < 2; n++) {
            great.feed("a()->1" + "+1".repeat(1996) + ".");
            House.due("too many tokens", great.house.read(), 8);
        }
        great.feed("f(X) -> {X + 1,[X]}. a() -> Y = f(1), print({Y,f(2),f(3) == f(4)}).");
        House.due("a text behind them", great.house.read(), 0);
        great.house.begin(1);
        great.house.go(0, 9);
        House.due("it works", great.output(), "{{2,[1]},{3,[2]},false}");
        House funs = new House();
        for (int n = 0; n < 3; n++) {
            funs.feed("a()->" + "fun()->1 end,".repeat(150) + "1.");
            House.due("many funs", funs.house.read(), 0);
        }
        funs.feed("a() -> F = fun() -> 1 end, G = fun(_) -> 2 end, print({F(),G(3),F == G}).");
        House.due("a text behind them", funs.house.read(), 0);
        funs.house.begin(0);
        funs.house.go(0, 9);
        House.due("F and G are two", funs.output(), "{1,2,false}");
        // Names are numbered anew by each text.
        House names = new House();
        for (int n = 0; n < 2; n++) {
            names.feed("a() -> 1" + row(n == 0 ? ",X" : ",Z", 700, "") + ".");
            House.due("a text of many names that are not bound", names.house.read(), 5 + 16);
        }
        names.feed("a(Yyyyyyyy,Zzzzzzzz) -> {Yyyyyyyy,Zzzzzzzz}. b() -> print(a(1,2)).");
        House.due("a text behind it", names.house.read(), 0);
        names.house.begin(1);
        names.house.go(0, 5);
        House.due("both are two", names.output(), "{1,2}");
    }

    /** What one text leaves behind must not reach the next one on the same object. */
    private static void readAgain() {
        House.says("The tape's text becomes the program");
        String[] faulty = {"", "a(", "a() -> " + "(".repeat(20), "a() -> " + "{".repeat(26), "a() -> 1 + 2 * (3 - [4 ++ ", "a() -> \"x", "a() -> fun(X) -> fun(Y) -> case 1 of Z -> {U,",
            "a(X) -> X; b() -> Y.", "a() when self() -> 1.", "a() when 1 -> receive after fun() when c", "a() -> 1" + ",1".repeat(900) + ".", "a() -> catch - not - not @",
            "a(X,Y) -> fun(X) when self() -> Z end.", "a() -> 2147483648.", "a() -> 1" + row(", A", 41, " = 1") + ".", "a() -> fun() -> 1" + row(", A", 41, " = 1") + " end.",
            row("f", 61, "() -> 1. "), "a() -> 1" + row(", b", 180, "") + "."};
        for (String text : faulty) {
            House x = new House();
            x.feed(text);
            House.due("a fault: " + text, x.house.read() == 0 ? 0 : 1, 1);
            x.feed("b(X) -> X. a() -> Y = " + "(".repeat(21) + "b(1)" + ")".repeat(21) + ", F = fun(X) when X < 3 -> {X,Y} end, print(F(2)), print([4 + 2 * 3 - 1|Y]).");
            House.due("none behind " + text, x.house.read(), 0);
            House.due("ATOMS", x.house.count(2), 25);
            x.house.begin(1);
            x.house.go(0, 9);
            House.due("it works", x.output(), "{2,1}/[9|1]");
        }
        House.says("6 ATOM ( .. ) and fun ATOM / NUMBER that are no FUNCTION");
        House gone = House.of("a() -> b(). b() -> c(1). c(X) -> X.");
        gone.feed("a() -> b().");
        House.due("b was one of the text before", gone.house.read(), 22);
        gone.feed("a() -> fun b/0.");
        House.due("for a fun, too", gone.house.read(), 22);
        gone.feed("a() -> 1. b() -> c(1).");
        House.due("and c", gone.house.read(), 22);
        gone.feed("a() -> 1. c(X) -> X. b() -> c(1).");
        House.due("there they are", gone.house.read(), 0);
    }

    private static void count() {
        House.says("0 to 2 are 0 without a program, 4 to 8 before begin(). NONE for another what.");
        House x = House.of("a() -> P = spawn(fun b/0), watch(P), ref(), print(x), print(b()), receive stop -> 1 end. b() -> c(). c() -> 1.");
        int[] before = {55, 3, 31, 0, 0, 0, 0, 0, 0};
        House.due("tokens", x.house.count(0), 55);
        for (int what = 0; what <= 8; what++) {
            House.due("count(" + what + ") before begin()", x.house.count(what), before[what]);
        }
        x.house.begin(0);
        x.house.go(0, 9);
        x.house.clock(7);
        x.house.go(1, 9);
        x.feed("xyz");
        int[] then = {55, 3, 31, 3, 2, 2, 3, 7, 2};
        for (int what = 0; what <= 8; what++) {
            House.due("count(" + what + ")", x.house.count(what), then[what]);
        }
        for (int what : new int[] {-1, 9, 10, -2147483648, 2147483647, 16, 65536}) {
            House.due("count(" + what + ")", x.house.count(what), NONE);
        }
        House.says("then the others as they stand first, those that are called, too");
        House y = House.of("f(one,true) -> {two,one}; f(_,ok) -> self(), g(three), fun f/2. g(_) -> stack.");
        String[] due = {"f", "one", "two", "self", "g", "three"};
        for (int a = 0; a < due.length; a++) {
            House.due("ATOM " + (22 + a), y.atom(22 + a), due[a]);
        }
        House.due("ATOMS", y.house.count(2), 28);
    }

    private static void referencesMade() {
        House.says("8 REFERENCES made");
        for (String none : new String[] {"error(a)", "exit(a)", "throw(a)", "trap(true)", "now()", "self()", "watch(a)", "unwatch(1)", "link(self())", "name(a,self())", "hd([])"}) {
            House x = House.of("a() -> (catch " + none + "), ref().");
            x.run(0);
            House.due("none by " + none, x.house.count(8), 1);
        }
    }

    private static void function() {
        House.says("Of FUNCTION f: 0 its ATOM, 1 how many PATTERNS, 2 CLAUSES, 3 its line. NONE for another what, or no such FUNCTION.");
        House x = House.of("f(1) -> 1;\nf(2) -> 2;\n f(_) -> 3.\n\n\nok\n() -> 4. g(_,_,_,_,_,_) -> 1.");
        int[][] due = {{22, 1, 3, 1}, {2, 0, 1, 6}, {23, 6, 1, 7}};
        for (int f = 0; f < due.length; f++) {
            for (int what = 0; what < 4; what++) {
                House.due("function(" + f + ", " + what + ")", x.house.function(f, what), due[f][what]);
            }
            House.due("what 4", x.house.function(f, 4), NONE);
            House.due("what -1", x.house.function(f, -1), NONE);
        }
        House.due("FUNCTION 3", x.house.function(3, 0), NONE);
        for (int far : FAR) {
            House.due("FUNCTION " + far, x.house.function(far, 0), NONE);
            House.due("what " + far, x.house.function(0, far), NONE);
        }
        StringBuilder many = new StringBuilder();
        for (int i = 0; i < 60; i++) {
            many.append("f").append(i).append("() -> 1.\n");
        }
        House y = House.of(many.toString());
        House.due("the line of FUNCTION 59", y.house.function(59, 3), 60);
        House.due("FUNCTION 60", y.house.function(60, 3), NONE);
    }

    private static void letter() {
        House.says("Sign k of ATOM a; NONE if there is none such.");
        House x = House.of("aB_9() -> 1.");
        House.due("sign 0", x.house.letter(22, 0), 'a');
        House.due("sign 1", x.house.letter(22, 1), 'B');
        House.due("sign 2", x.house.letter(22, 2), '_');
        House.due("sign 3", x.house.letter(22, 3), '9');
        House.due("sign 4", x.house.letter(22, 4), NONE);
        House.due("ATOM 23", x.house.letter(23, 0), NONE);
        House.due("true", x.atom(0), "true");
        for (int far : FAR) {
            House.due("ATOM " + far, x.house.letter(far, 0), NONE);
            House.due("sign " + far, x.house.letter(22, far), NONE);
        }
        // Those of an earlier text are gone.
        House y = House.of("one() -> {two,three}.");
        y.feed("b() -> 1.");
        y.house.read();
        House.due("its ATOM", y.atom(22), "b");
        House.due("none behind it", y.house.letter(23, 0), NONE);
    }

    private static void begin() {
        House.says("A run begins anew: PROCESS 0, which calls FUNCTION f (no CALL that counts); the CLOCK is 0.");
        House x = House.of("a() -> print(a), name(n,self()), trap(true), self() ! 1, watch(spawn(fun c/0)), link(spawn(fun c/0)), c(). b(_) -> 1. c() -> receive stop -> {} end. d() -> print(d), ok.");
        for (int run = 0; run < 2; run++) {
            x.house.begin(0);
            int[] due = {0, 1, 0, 0, 0, 0, 0, 0, NONE, 0, NONE, 0};
            for (int what = 0; what < due.length; what++) {
                House.due("process(0, " + what + ") as it begins", x.house.process(0, what), due[what]);
            }
            for (int what = 4; what <= 8; what++) {
                House.due("count(" + what + ") as it begins", x.house.count(what), what == 4 ? 1 : 0);
            }
            House.due("PROCESS 1", x.house.process(1, 0), NONE);
            House.due("its FUNCTION", x.house.frame(0, 0, 0), 0);
            House.due("no CLAUSE yet", x.house.frame(0, 0, 1), 0);
            House.due("no NAMES", x.house.frame(0, 0, 2), 0);
            House.due("nothing waits", x.house.frame(0, 0, 3), 0);
            House.due("c() is its one CALL", x.house.go(0, 500), 1);
            x.house.clock(9);
            x.house.go(1, 1);
            x.house.go(2, 1);
            House.due("LINK 0", x.house.link(0, 0), 2);
        }
        beginAmidst();
        x.house.begin(3);
        House.due("no CALL", x.house.go(0, 500), 0);
        House.due("d", x.output(), "d");
        House.due("no LINKS of before", x.house.link(0, 0), NONE);
        House.says("IllegalStateException: there is no program. NoSuchElementException: no such FUNCTION. IllegalArgumentException: it has PATTERNS.");
        House.due("FUNCTION 1", x.thrownByBegin(1), "IllegalArgumentException");
        House.due("FUNCTION 4", x.thrownByBegin(4), "NoSuchElementException");
        for (int far : FAR) {
            House.due("FUNCTION " + far, x.thrownByBegin(far), "NoSuchElementException");
            House.due("FUNCTION " + far + " without a program", new House().thrownByBegin(far), "IllegalStateException");
        }
        House.due("the run is still there", x.output(), "d");
    }

    /** Nothing of a run that is left in its midst reaches the next one. */
    private static void beginAmidst() {
        House.says("A run begins anew");
        // Of the terms that wait, are bound or in the BOX as the first run is left nothing stays when the heap is CLEARED.
        House heap = House.of("main() -> X = mk(20,[]), self() ! X, [X, {mk(21,[]), stop()}]. other() -> w(250), {}, stop(). stop() -> receive x -> 1 end."
            + " mk(0,A) -> A; mk(N,A) -> mk(N - 1,[N|A]). w(0) -> ok; w(N) -> [N], w(N - 1).");
        heap.house.begin(0);
        heap.house.go(0, 500);
        House.due("it waits", heap.house.process(0, 0), 1);
        heap.house.begin(1);
        heap.house.go(0, 500);
        House.due("CLEARED", heap.house.process(0, 3), 1);
        House.due("{} alone", heap.house.process(0, 2), 1);
        House x = House.of("a() -> X = 1, {X, catch {X, c(f(200))}}. b() -> error(b). c(N) -> 1 + d(N). d(_) -> 1. f(0) -> {}; f(N) -> {N,N,N,N}, f(N - 1). g() -> receive 1 -> 2 end.");
        x.house.begin(0);
        x.house.go(0, 202);
        House.due("it stopped ahead of d()", x.house.process(0, 11), 1);
        House.due("it was CLEARED", x.house.process(0, 3), 2);
        House.due("two FRAMES", x.house.process(0, 1), 2);
        x.house.begin(1);
        House.due("no line", x.house.process(0, 11), 0);
        House.due("not CLEARED", x.house.process(0, 3), 0);
        House.due("no CALLS", x.house.process(0, 9), 0);
        House.due("no cells", x.house.process(0, 2), 0);
        House.due("one FRAME", x.house.process(0, 1), 1);
        x.house.go(0, 0);
        House.due("no catch of before", x.reason(0), "{error,b}");
        x.house.begin(5);
        House.due("it has not ENDED", x.house.process(0, 0), 0);
        House.due("no REASON", x.show(0, 3, 0), null);
        x.house.go(0, 0);
        x.house.send(0, 0, 7);
        x.house.go(0, 0);
        x.house.begin(5);
        House.due("an empty BOX", x.house.process(0, 4), 0);
        x.house.send(0, 0, 1);
        x.house.go(0, 0);
        House.due("the first message is tried", x.reason(0), "normal");
    }

    private static void go() {
        House.says("PROCESS p goes on until n CALLS have begun and the next one would, or it WAITS or has ENDED: how many CALLS began.");
        House x = House.of("a() -> f(0). f(N) -> f(N + 1).");
        x.house.begin(0);
        House.due("n 0", x.house.go(0, 0), 0);
        House.due("n 1", x.house.go(0, 1), 1);
        House.due("n 500", x.house.go(0, 500), 500);
        House.due("its CALLS", x.house.process(0, 9), 501);
        House.due("what it came to", x.show(0, 2, 0), "501");
        House y = House.of("a() -> f(3), receive stop -> f(2) end, f(1). f(0) -> 0; f(N) -> f(N - 1).");
        y.house.begin(0);
        House.due("it WAITS", y.house.go(0, 500), 4);
        y.house.send(0, 1, 24);
        House.due("stop", y.atom(24), "stop");
        House.due("exactly as many as there are", y.house.go(0, 5), 5);
        House.due("it has ENDED", y.reason(0), "normal");
        House z = House.of("a() -> f(3). f(0) -> 0; f(N) -> f(N - 1).");
        z.house.begin(0);
        House.due("4 of 4: the next one would not begin", z.house.go(0, 4), 4);
        House.due("so it has ENDED", z.house.process(0, 0), 3);
        House.says("IllegalArgumentException: n is not 0 .. 500. NoSuchElementException: no such PROCESS. IllegalStateException: it has ENDED, or WAITS and nothing has come that it has not tried, nor its time.");
        for (int n : new int[] {-1, 501, -2147483648, 2147483647}) {
            House.due("n " + n, x.thrownByGo(0, n), "IllegalArgumentException");
            House.due("n " + n + " of no PROCESS", x.thrownByGo(7, n), "IllegalArgumentException");
            House.due("n " + n + " of one that has ENDED", z.thrownByGo(0, n), "IllegalArgumentException");
        }
        for (int p : new int[] {1, 24, 25, -1, -2147483648, 2147483647}) {
            House.due("PROCESS " + p, x.thrownByGo(p, 0), "NoSuchElementException");
        }
        House.due("ENDED", z.thrownByGo(0, 0), "IllegalStateException");
        House.due("ENDED", z.thrownByGo(0, 500), "IllegalStateException");
    }

    private static void clock() {
        House.says("IllegalArgumentException: t is not 0 .. 1000000000 (also without a run), or it would be above 1000000000. IllegalStateException: no run has begun.");
        House x = new House();
        for (int t : new int[] {-1, 1000000001, -2147483648, 2147483647}) {
            House.due(t + " without a run", x.thrownByClock(t), "IllegalArgumentException");
        }
        House.due("0 without a run", x.thrownByClock(0), "IllegalStateException");
        House.due("1000000000 without a run", x.thrownByClock(1000000000), "IllegalStateException");
        x.feed("a() -> receive after 10 -> 1 end.").house.read();
        House.due("with a program alone", x.thrownByClock(1), "IllegalStateException");
        x.house.begin(0);
        House.due("0", x.house.clock(0), 0);
        House.due("1", x.house.clock(1), 1);
        House.due("to 1000000000", x.house.clock(999999999), 1000000000);
        House.due("1 more", x.thrownByClock(1), "IllegalArgumentException");
        House.due("1000000000 more", x.thrownByClock(1000000000), "IllegalArgumentException");
        House.due("0 more", x.house.clock(0), 1000000000);
        House.due("the CLOCK", x.house.count(7), 1000000000);
        x.house.begin(0);
        House.due("from 0 again, at once", x.house.clock(1000000000), 1000000000);
        for (int t : new int[] {-1, 1000000001, -2147483648, 2147483647, 1}) {
            House.due("t " + t, x.thrownByClock(t), "IllegalArgumentException");
        }
    }

    private static void send() {
        House.says("From outside: a number (sort 0), ATOM (1), or {number v, PROCESS p} (2; 3 cells) comes as a message to p.");
        House x = House.of("a() -> spawn(fun() -> receive stop -> 1 end end), receive stop -> 1 end.");
        x.house.begin(0);
        x.house.go(0, 0);
        int[] numbers = {0, 1, -1, 2147483647, -2147483648};
        for (int i = 0; i < numbers.length; i++) {
            x.house.send(1, 0, numbers[i]);
            x.house.send(1, 2, numbers[i]);
            House.due("a number", x.show(1, 0, 2 * i), Integer.toString(numbers[i]));
            House.due("with the PROCESS", x.show(1, 0, 2 * i + 1), "{" + numbers[i] + ",<1>}");
            // The FUN has 2 cells.
            House.due("3 cells", x.house.process(1, 2), 2 + 3 * (i + 1));
        }
        x.house.send(0, 1, 0);
        x.house.send(0, 1, x.house.count(2) - 1);
        House.due("ATOM 0", x.show(0, 0, 0), "true");
        House.due("the last ATOM", x.show(0, 0, 1), "stop");
        House.due("it may go on", x.house.process(0, 0), 2);
        House.says("NoSuchElementException: no such PROCESS, or ATOM. IllegalArgumentException: another sort.");
        for (int far : new int[] {2, 24, -1, -2147483648, 2147483647}) {
            House.due("PROCESS " + far, x.thrownBySend(far, 0, 0), "NoSuchElementException");
            House.due("PROCESS " + far + ", sort 9", x.thrownBySend(far, 9, 0), "NoSuchElementException");
        }
        for (int sort : new int[] {3, -1, -2147483648, 2147483647}) {
            House.due("sort " + sort, x.thrownBySend(0, sort, 0), "IllegalArgumentException");
            House.due("sort " + sort + ", no ATOM", x.thrownBySend(0, sort, -1), "IllegalArgumentException");
        }
        for (int atom : new int[] {x.house.count(2), -1, -2147483648, 2147483647}) {
            House.due("ATOM " + atom, x.thrownBySend(0, 1, atom), "NoSuchElementException");
        }
        House.due("nothing came", x.house.process(0, 4), 2);
        sentWithoutRoom();
        House.says("Nothing comes to one that has ENDED, or whose BOX is full.");
        x.house.go(0, 0);
        House.due("it has ENDED", x.reason(0), "normal");
        House.due("a number to it", x.thrownBySend(0, 0, 0), "nothing");
        House.due("a TUPLE to it", x.thrownBySend(0, 2, 0), "nothing");
        House.due("its BOX", x.house.process(0, 4), 0);
        House.due("no ATOM is none", x.thrownBySend(0, 1, -1), "NoSuchElementException");
    }

    private static void sentWithoutRoom() {
        House.says("A message .. comes to the heap of the one that gets it: if that has no room, it ENDS so .. all ahead of what is done next");
        House x = House.of("a() -> trap(true), S = self(), P = spawn(fun() -> name(n,self()), link(S), f(mk(249,[])) end), watch(P), receive stop -> 1 end.\n"
            + "f(L) -> receive stop -> L end. mk(0,A) -> A; mk(N,A) -> mk(N - 1,[N|A]).");
        x.house.begin(0);
        x.house.go(0, 9);
        x.house.go(1, 500);
        House.due("498 cells can be reached", x.house.process(1, 0), 1);
        House full = House.of("a() -> f(mk(250,[])). f(L) -> receive stop -> L end. mk(0,A) -> A; mk(N,A) -> mk(N - 1,[N|A]).");
        full.house.begin(0);
        full.house.go(0, 500);
        House.due("500 cells", full.house.process(0, 2), 500);
        full.house.send(0, 0, 2147483647);
        full.house.send(0, 1, 0);
        House.due("numbers and ATOMS need none", full.house.process(0, 4), 2);
        House.due("it was not CLEARED", full.house.process(0, 3), 0);
        x.house.send(1, 0, 5);
        House.due("a number needs none", x.house.process(1, 4), 1);
        x.house.send(1, 2, 5);
        House.due("3 have no room", x.reason(1), "heap");
        House.due("the SIGNAL has come", x.show(0, 0, 0), "{exit,<1>,heap}");
        House.due("and the message of the WATCH", x.show(0, 0, 1), "{down,#0,<1>,heap}");
        House.due("no LINK is left", x.house.process(0, 5), 0);
        House.due("no WATCH is left", x.house.process(0, 6), 0);
        House.due("it may go on", x.house.process(0, 0), 2);
    }

    private static void process() {
        House.says("1, 2, 4 to 7, 11 are 0, 8 and 10 NONE for one that has ENDED. NONE for another what, or no such PROCESS.");
        House x = House.of("a() -> trap(true), name(n,self()), P = spawn(fun() -> receive stop -> 1 end end), link(P), watch(P), self() ! {1}, b(120), receive stop -> 1 after 50 -> c() end, 1.\n"
            + "b(0) -> 1; b(N) -> {N,N,N,N}, b(N - 1).\nc() -> d(). d() -> 1.");
        x.house.begin(0);
        x.house.go(0, 500);
        int n = x.house.process(0, 8);
        House.due("its name", x.atom(n), "n");
        // 120 of 5 cells, and 2 of the FUN, {1} and its copy: 6; 98 of them fit, then {1}'s copy stays: 2, and 22 of 5.
        int[] waits = {1, 1, 2 + 22 * 5, 1, 1, 1, 1, 1, n, 121, 50, 0};
        for (int what = 0; what < waits.length; what++) {
            House.due("process(0, " + what + ") as it WAITS", x.house.process(0, what), waits[what]);
        }
        x.house.clock(50);
        House.due("its time has come", x.house.process(0, 0), 2);
        x.house.go(0, 0);
        int[] ahead = {0, 1, 112, 1, 1, 1, 1, 1, n, 121, NONE, 1};
        for (int what = 0; what < ahead.length; what++) {
            House.due("process(0, " + what + ") ahead of c()", x.house.process(0, what), ahead[what]);
        }
        x.house.go(0, 1);
        House.due("the line of d()", x.house.process(0, 11), 3);
        House.due("two FRAMES", x.house.process(0, 1), 2);
        x.house.go(0, 1);
        int[] ended = {3, 0, 0, 1, 0, 0, 0, 0, NONE, 123, NONE, 0};
        for (int what = 0; what < ended.length; what++) {
            House.due("process(0, " + what + ") ENDED", x.house.process(0, what), ended[what]);
        }
        House.due("its CALLS", x.house.process(0, 9), 123);
        for (int far : FAR) {
            House.due("what " + far, x.house.process(0, far), NONE);
            House.due("PROCESS " + far, x.house.process(far, 0), NONE);
        }
        House.due("what 12", x.house.process(0, 12), NONE);
        House.due("what 12 of 1", x.house.process(1, 12), NONE);
        House.due("PROCESS 2", x.house.process(2, 0), NONE);
        House.due("PROCESS 24", x.house.process(24, 0), NONE);
        House.says("11 the line of the CALL that would begin next (the ATOM's, or the first token's of the PRIMARY that is called; 0 if it WAITS or has not gone on yet)");
        House y = House.of("a() -> F = fun(_) ->\n1 end, {\nb\n(\n1),\nF\n(2),\n(\nF)(3), {\nfun\nb/1(4)}}, \nbegin\nF\nend\n(5), b(6).\nb(_) -> receive stop -> 1 after 0 -> 1 end.");
        y.house.begin(0);
        House.due("it has not gone on yet", y.house.process(0, 11), 0);
        for (int line : new int[] {3, 6, 8, 10, 12, 15}) {
            y.house.go(0, line == 3 ? 0 : 1);
            House.due("the next line", y.house.process(0, 11), line);
        }
        House z = House.of("a() ->\nb(), c(). b() -> receive stop -> 1 end. c() -> 1.");
        z.house.begin(0);
        z.house.go(0, 0);
        House.due("ahead of b()", z.house.process(0, 11), 2);
        z.house.go(0, 1);
        House.due("it WAITS", z.house.process(0, 0), 1);
        House.due("no line", z.house.process(0, 11), 0);
        z.house.send(0, 1, z.house.count(2) - 1);
        House.due("the last ATOM is stop", z.show(0, 0, 0), "stop");
        House.due("it WAITS still", z.house.process(0, 11), 0);
        z.house.go(0, 0);
        House.due("ahead of c()", z.house.process(0, 11), 2);
        // What comes while it does not WAIT leaves the line.
        z.house.send(0, 0, 1);
        House.due("ahead of c() still", z.house.process(0, 11), 2);
    }

    private static void frame() {
        House.says("0 its FUNCTION (of a FUN: NONE), 1 the line of its CLAUSE's or fun's first token (0: none was chosen yet), 2 NAMES that are bound, 3 terms that wait in it. NONE for another what, or no such FRAME.");
        House x = House.of("a() -> X = 1, {X, b(X, 2)}.\nb(9,_) -> 1;\n b(Y,Z) -> W = Y, [W, Z|(\nfun(V) ->\n {Y, c(V)} end)(3)].\nc(_) -> receive stop -> 1 end.");
        x.house.begin(0);
        House.due("none was chosen yet", x.house.frame(0, 0, 1), 0);
        x.house.go(0, 500);
        int[][] due = {{2, 6, 0, 0}, {NONE, 4, 2, 1}, {1, 3, 3, 2}, {0, 1, 1, 1}};
        for (int i = 0; i < due.length; i++) {
            for (int what = 0; what < 4; what++) {
                House.due("frame(0, " + i + ", " + what + ")", x.house.frame(0, i, what), due[i][what]);
            }
            House.due("what 4", x.house.frame(0, i, 4), NONE);
            House.due("what -1", x.house.frame(0, i, -1), NONE);
        }
        House.due("FRAME 4", x.house.frame(0, 4, 0), NONE);
        for (int far : FAR) {
            House.due("PROCESS " + far, x.house.frame(far, 0, 0), NONE);
            House.due("FRAME " + far, x.house.frame(0, far, 0), NONE);
            House.due("what " + far, x.house.frame(0, 0, far), NONE);
        }
        House.due("PROCESS 1", x.house.frame(1, 0, 0), NONE);
        House.says("(parts, those that are tried, ARGUMENTS of the CALL that would begin next and the FUN that is called)");
        House y = House.of("a() -> F = fun(_,_,_,_,_,_) -> 1 end, {a, [b|F(1,2,3,4,5,6)]}, c(), F(1,2,3,4,5,6). c() -> 1.");
        y.house.begin(0);
        y.house.go(0, 0);
        House.due("two parts, the FUN, six ARGUMENTS", y.house.frame(0, 0, 3), 9);
        House.due("the oldest first", y.show(0, 2, 0) + y.show(0, 2, 1) + y.show(0, 2, 2) + y.show(0, 2, 3) + y.show(0, 2, 8), "abfun16");
        y.house.go(0, 1);
        House.due("none ahead of c()", y.house.frame(0, 0, 3), 0);
        y.house.go(0, 1);
        House.due("the FUN and six", y.house.frame(0, 0, 3), 7);
        framesOfFuns();
        afterAFunWasCalled();
    }

    private static void afterAFunWasCalled() {
        // The FUN that is called is the first that waits in the first FRAME, and then in one above it.
        House x = House.of("a() -> F = fun(X,Y) -> [b(X)], Y end, F(1,2), G = fun() -> b(3) + 1 end, Z = G(), b(Z). b(X) -> X.");
        x.house.begin(0);
        x.house.go(0, 1);
        House.due("its FRAME", x.house.process(0, 1), 2);
        House.due("nothing waits beneath it", x.house.frame(0, 1, 3), 0);
        x.house.go(0, 1);
        House.due("the next FUN alone waits", x.house.frame(0, 0, 3), 1);
        x.house.go(0, 1);
        House.due("and nothing beneath it, when it is called", x.house.frame(0, 1, 3), 0);
        x.house.go(0, 1);
        House.due("the ARGUMENT of the last CALL alone waits", x.house.frame(0, 0, 3), 1);
        House.due("it", x.show(0, 2, 0), "4");
    }

    private static void framesOfFuns() {
        House.says("FRAMES: of a FUNCTION's or FUN's CLAUSE .. 0 its FUNCTION (of a FUN: NONE)");
        House x = House.of("a() -> F = fun b/1, P = spawn(fun c/0), {P, F(1)}.\nb(X) ->\n [c(), X].\nc() -> receive stop -> 1 end.");
        x.house.begin(0);
        x.house.go(0, 500);
        House.due("called as fun b/1, its CLAUSE is that of b", x.house.frame(0, 1, 0), 1);
        House.due("and so is its line", x.house.frame(0, 1, 1), 2);
        House.due("it holds nothing", x.house.frame(0, 1, 2), 1);
        House.due("begun as fun c/0", x.house.frame(1, 0, 0), 2);
        House.due("none of its CLAUSES was chosen yet", x.house.frame(1, 0, 1), 0);
        x.house.go(1, 0);
        House.due("then one is", x.house.frame(1, 0, 1), 4);
        House.says("1 the line of its CLAUSE's or fun's first token");
        House y = House.of("a() -> (fun\n(X)\n->\n {b(X)} end)(1).\nb\n(_)\n-> receive stop -> 1 end.");
        y.house.begin(0);
        y.house.go(0, 500);
        House.due("that of the word fun", y.house.frame(0, 1, 1), 1);
        House.due("that of the ATOM", y.house.frame(0, 0, 1), 5);
    }

    private static void link() {
        House.says("Of LINK i of PROCESS p, in the order in which they were made: the other PROCESS; NONE if there is none such.");
        House x = House.of("a() -> A = s(), B = s(), C = s(), link(C), link(A), link(B), receive after 1 -> unlink(A), receive after 1 -> link(A), receive stop -> 1 end end end. s() -> spawn(fun() -> receive stop -> 1 end end).");
        x.house.begin(0);
        x.house.go(0, 9);
        int[][] due = {{3, 1, 2, NONE}, {3, 2, NONE, NONE}, {3, 2, 1, NONE}};
        for (int[] links : due) {
            for (int i = 0; i < links.length; i++) {
                House.due("LINK " + i, x.house.link(0, i), links[i]);
            }
            House.due("how many", x.house.process(0, 5), links[2] == NONE ? 2 : 3);
            if (x.house.count(7) < 2) {
                x.house.clock(1);
                x.house.go(0, 0);
            }
        }
        for (int far : FAR) {
            House.due("LINK " + far, x.house.link(0, far), NONE);
            House.due("PROCESS " + far, x.house.link(far, 0), NONE);
        }
        House.due("PROCESS 4", x.house.link(4, 0), NONE);
        House.due("of PROCESS 3", x.house.link(3, 0), 0);
        // Whichever goes, the others keep their order.
        for (int gone = 1; gone <= 4; gone++) {
            House y = House.of("a() -> l(s()), l(s()), l(s()), l(s()), receive {P,0} -> unlink(P) end, receive stop -> 1 end."
                + " l(P) -> link(P), P ! self(). s() -> spawn(fun() -> receive P -> receive N -> P ! {self(),N} end, receive stop -> 1 end end end).");
            y.house.begin(0);
            y.settle();
            y.house.send(gone, 0, 0);
            y.settle();
            int[] kept = {gone == 1 ? 2 : 1, gone <= 2 ? 3 : 2, gone <= 3 ? 4 : 3, NONE};
            for (int i = 0; i < kept.length; i++) {
                House.due("LINK " + i + " without " + gone, y.house.link(0, i), kept[i]);
            }
            House.due("that of the other one is gone, too", y.house.link(gone, 0), NONE);
        }
    }

    private static void show() {
        House.says("SHOWN becomes the text (as print's) of: what 0: message i of PROCESS p's BOX, 1 the i-th bound NAME's term of its uppermost FRAME (as they were bound), 2 the i-th term that waits there (see frame(); the oldest first), 3 its REASON (i 0): how many signs, 100 at most. NONE, and SHOWN stays, if there is none such.");
        House x = House.of("a() -> self() ! m0, self() ! {m,1}, X = x0, {[w0], b(X)}. b(Y) -> Z = {z,1}, [w0, w1|c(Y,Z)]. c(_,_) -> exit({bye,\"" + "x".repeat(40) + "\"}).");
        x.house.begin(0);
        House.due("no NAME yet", x.show(0, 1, 0), null);
        House.due("nothing SHOWN yet", x.house.shown(0), NONE);
        x.house.go(0, 1);
        House.due("message 0", x.show(0, 0, 0), "m0");
        House.due("message 1", x.show(0, 0, 1), "{m,1}");
        House.due("NAME 0 of b", x.show(0, 1, 0), "x0");
        House.due("NAME 1 of b", x.show(0, 1, 1), "{z,1}");
        House.due("what waits", x.show(0, 2, 0) + x.show(0, 2, 1) + x.show(0, 2, 2) + x.show(0, 2, 3), "w0w1x0{z,1}");
        int[][] none = {{0, 0, 2}, {0, 1, 2}, {0, 2, 4}, {0, 3, 0}, {0, 4, 0}, {0, -1, 0}, {0, 0, -1}, {0, 1, -1}, {0, 2, -1}, {1, 0, 0}, {1, 1, 0}, {1, 3, 0}, {-1, 0, 0},
            {2147483647, 0, 0}, {0, 2147483647, 0}, {0, 0, 2147483647}, {0, 1, 2147483647}, {0, 2, 2147483647}, {0, 1, -2147483648}, {-2147483648, 1, 0}, {0, -2147483648, 0}};
        for (int[] one : none) {
            House.due("show " + one[0] + " " + one[1] + " " + one[2], x.house.show(one[0], one[1], one[2]), NONE);
            House.due("SHOWN stays", x.house.shown(4), '}');
            House.due("as long as it was", x.house.shown(5), NONE);
        }
        x.house.go(0, 1);
        House.due("it has ENDED: no message", x.show(0, 0, 0), null);
        House.due("no NAME", x.show(0, 1, 0), null);
        House.due("nothing waits", x.show(0, 2, 0), null);
        House.due("REASON 1", x.show(0, 3, 1), null);
        House.due("REASON -1", x.show(0, 3, -1), null);
        House.due("SHOWN stays", x.house.shown(0), '{');
        House.due("100 signs at most", x.house.show(0, 3, 0), 100);
        House.says("Sign k of SHOWN; NONE if there is none such.");
        House.due("sign 0", x.house.shown(0), '{');
        House.due("sign 1", x.house.shown(1), 'b');
        House.due("sign 99", x.house.shown(99), x.reason(0).charAt(99));
        House.due("sign 100", x.house.shown(100), NONE);
        for (int far : FAR) {
            House.due("sign " + far, x.house.shown(far), NONE);
        }
        House y = House.of("a() -> exit(b).");
        y.run(0);
        House.due("a short one", y.house.show(0, 3, 0), 1);
        House.due("sign 0", y.house.shown(0), 'b');
        House.due("sign 1", y.house.shown(1), NONE);
        // show() alone says what SHOWN becomes.
        y.house.begin(0);
        House.due("behind begin()", y.house.shown(0), 'b');
        y.feed("a() -> c.");
        House.due("behind feed()", y.house.shown(0), 'b');
        House.due("read", y.house.read(), 0);
        House.due("behind read()", y.house.shown(0), 'b');
        House.due("a text that is no program", y.house.read(), 18);
        House.due("behind that", y.house.shown(0), 'b');
        House.due("and nothing more", y.house.shown(1), NONE);
    }

    private static void printed() {
        House.says("Sign k of line i of OUTPUT; NONE if there is none such.");
        House x = House.of("a() -> print(ab), print([]), print(-7).");
        x.run(0);
        int[][] due = {{'a', 'b', NONE}, {'[', ']', NONE}, {'-', '7', NONE}, {NONE, NONE, NONE}};
        for (int i = 0; i < due.length; i++) {
            for (int k = 0; k < 3; k++) {
                House.due("printed(" + i + ", " + k + ")", x.house.printed(i, k), due[i][k]);
            }
            House.due("printed(" + i + ", 100)", x.house.printed(i, 100), NONE);
            House.due("printed(" + i + ", -1)", x.house.printed(i, -1), NONE);
        }
        for (int far : FAR) {
            House.due("line " + far, x.house.printed(far, 0), NONE);
            House.due("sign " + far, x.house.printed(0, far), NONE);
        }
    }

    /** All that can be asked of an object, but for SHOWN. */
    private static String state(House x) {
        StringBuilder all = new StringBuilder();
        for (int what = 0; what <= 8; what++) {
            all.append(x.house.count(what)).append(' ');
        }
        for (int p = 0; p < x.house.count(4); p++) {
            for (int what = 0; what < 12; what++) {
                all.append(x.house.process(p, what)).append(' ');
            }
            for (int i = 0; i < x.house.process(p, 1); i++) {
                for (int what = 0; what < 4; what++) {
                    all.append(x.house.frame(p, i, what)).append(' ');
                }
            }
            for (int what = 0; what < 4; what++) {
                for (int i = 0; i < 12; i++) {
                    all.append(x.show(p, what, i)).append(' ');
                }
            }
        }
        return all.append(x.output()).toString();
    }

    /** An object in the midst of a run, with bytes on its tape. */
    private static House amidst() {
        House x = House.of("a() -> print(out), X = {1}, P = spawn(fun b/0), link(P), watch(P), self() ! X, P ! {m,X}, Q = spawn(fun() -> 1 end), Q ! 1, f(Q).\n"
            + "b() -> receive stop -> 1 after 9 -> 2 end. c(_) -> 1. f(_) -> 1.");
        x.house.begin(0);
        x.house.go(0, 0);
        x.house.go(1, 0);
        x.house.go(2, 0);
        x.feed("tape");
        x.house.clock(5);
        return x;
    }

    private static void refuse(House x, int call) {
        switch (call) {
            case 0:
                House.due("begin", x.thrownByBegin(9) + x.thrownByBegin(-1) + x.thrownByBegin(2), "NoSuchElementExceptionNoSuchElementExceptionIllegalArgumentException");
                break;
            case 1:
                House.due("go", x.thrownByGo(0, 501) + x.thrownByGo(9, 1) + x.thrownByGo(1, 1) + x.thrownByGo(2, 1),
                    "IllegalArgumentExceptionNoSuchElementExceptionIllegalStateExceptionIllegalStateException");
                break;
            case 2:
                House.due("clock", x.thrownByClock(-1) + x.thrownByClock(999999996), "IllegalArgumentExceptionIllegalArgumentException");
                break;
            case 3:
                House.due("send", x.thrownBySend(9, 0, 0) + x.thrownBySend(0, 1, 999) + x.thrownBySend(0, 5, 0),
                    "NoSuchElementExceptionNoSuchElementExceptionIllegalArgumentException");
                break;
            case 4:
                House.due("back(5)", x.house.back(5), NONE);
                House.due("back(-1)", x.house.back(-1), NONE);
                break;
            default:
                House.due("show", x.house.show(0, 3, 0), NONE);
                House.due("process", x.house.process(3, 0), NONE);
                House.due("frame", x.house.frame(0, 1, 0), NONE);
                House.due("link", x.house.link(0, 1), NONE);
                House.due("count", x.house.count(9), NONE);
                House.due("function", x.house.function(4, 0), NONE);
                House.due("letter", x.house.letter(99, 0), NONE);
                House.due("shown", x.house.shown(0), NONE);
                House.due("printed", x.house.printed(1, 0), NONE);
                break;
        }
    }

    private static void refusedCallsChangeNothing() {
        House.says("What throws, or answers NONE for what was asked, changes nothing.");
        String before = state(amidst());
        for (int call = 0; call <= 5; call++) {
            House x = amidst();
            refuse(x, call);
            refuse(x, call);
            House.due("all is as it was behind call " + call, state(x), before);
        }
        House full = new House().feed("a() -> 1." + " ".repeat(3991));
        House.due("feed", full.house.feed(-1, -1, -1, -1, -1), NONE);
        House.due("its bytes are as they were", full.house.read(), 0);
        House.says("Of several exceptions that one goes which the call names first.");
        House x = amidst();
        House.due("begin: no program, no FUNCTION", new House().thrownByBegin(-1), "IllegalStateException");
        House.due("go: n, no PROCESS", x.thrownByGo(9, 501), "IllegalArgumentException");
        House.due("go: n, ENDED", x.thrownByGo(2, -1), "IllegalArgumentException");
        House.due("clock: t, no run", new House().thrownByClock(-1), "IllegalArgumentException");
        House.due("send: no PROCESS, another sort", x.thrownBySend(9, 9, 9), "NoSuchElementException");
    }
}
