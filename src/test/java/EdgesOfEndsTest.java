/** The section ENDS of the document: each sentence that names an edge, looked at on both sides of it. */
public final class EdgesOfEndsTest {
    /** A child that does what it is told. */
    private static final String CHILD = " child() -> receive {die,T} -> exit(T); {link,P} -> link(P), child(); {watch,P} -> watch(P), child();"
        + " {trap,B} -> trap(B), child(); {make,N} -> child(mk(N,[])) end. child(L) -> receive stop -> L end. mk(0,A) -> A; mk(N,A) -> mk(N - 1,[N|A]).";
    /** Prints all that it hears. */
    private static final String HEAR = " hear() -> receive X -> print(X), hear() end.";

    public static void main(String[] args) {
        theOrder();
        whatGoes();
        signals();
        endedAtOnce();
        exitOther();
        toOneself();
        links();
        watches();
        watchesThatStay();
        againInTheNextRun();
        manyWatches();
        refusedOnesChangeNothing();
        names();
        processes();
        House.close();
    }

    private static House settled(String text) {
        House x = House.of(text);
        x.house.begin(0);
        x.settle();
        return x;
    }

    private static void theOrder() {
        House.says("When a PROCESS ENDS with a REASON, in this order: its name goes; for each of its LINKS, in the order in which they were made, the link goes at both, and the other one gets an exit SIGNAL; for each WATCH of it, in that order, the watcher gets the message {down, R, P, REASON} (a copy), and the WATCH goes; its own WATCHES go.");
        House x = settled("main() -> trap(true), P = spawn(fun child/0), watch(P), watch(P), link(P), P ! {die,{a,[b]}}, hear()." + HEAR + CHILD);
        House.due("links ahead of watches, those as they were made", x.output(), "{exit,<1>,{a,[b]}}/{down,#0,<1>,{a,[b]}}/{down,#1,<1>,{a,[b]}}");
        // 1 links 4, 3, 2 in this order; 0 watches all of them.
        House y = settled("main() -> A = spawn(fun child/0), B = spawn(fun child/0), C = spawn(fun child/0), D = spawn(fun child/0),"
            + " watch(B), watch(C), watch(D), watch(A), A ! {link,D}, A ! {link,C}, A ! {link,B}, A ! {die,x}, hear()." + HEAR + CHILD);
        House.due("LINKS as they were made", y.output(), "{down,#3,<1>,x}/{down,#2,<4>,x}/{down,#1,<3>,x}/{down,#0,<2>,x}");
        // A link that was made by the other one has its place among them, too.
        House z = settled("main() -> A = spawn(fun child/0), B = spawn(fun child/0), C = spawn(fun child/0), watch(B), watch(C),"
            + " C ! {link,A}, A ! {link,B}, receive after 0 -> 1 end, hear()." + HEAR + CHILD);
        z.house.send(0, 0, 7);
        z.settle();
        House.due("so far", z.output(), "7");
        // 1 was told first to link 2, as it went on ahead of 3.
        House.due("link 0 of 1", z.house.link(1, 0), 2);
        House.due("link 1 of 1", z.house.link(1, 1), 3);
        House.due("link 0 of 3", z.house.link(3, 0), 1);
        House.says("what ENDS tell comes one after another: those that come by SIGNALS behind those that came before; all ahead of what is done next");
        // 1 - 2, 1 - 3, 2 - 4: 1 ENDS, then 2 and 3 by it, then 4 by 2.
        House w = settled("main() -> A = spawn(fun child/0), B = spawn(fun child/0), C = spawn(fun child/0), D = spawn(fun child/0),"
            + " watch(D), watch(C), watch(B), watch(A), B ! {link,D}, A ! {link,B}, A ! {link,C}, receive go -> 1 after 5 -> print(exit(A,x)), print([alive(A),alive(B),alive(C),alive(D)]) end, hear()." + HEAR + CHILD);
        w.house.clock(5);
        w.settle();
        House.due("one after another", w.output(), "true/[false,false,false,false]/{down,#3,<1>,x}/{down,#2,<2>,x}/{down,#1,<3>,x}/{down,#0,<4>,x}");
    }

    private static void whatGoes() {
        House.says("its name goes");
        House x = settled("main() -> P = spawn(fun child/0), name(a,P), print(named(a)), P ! {die,x}, receive after 1 -> print({named(a), catch (a ! 1), name(a,self())}) end." + CHILD);
        x.house.clock(1);
        x.settle();
        House.due("the name is free", x.output(), "<1>/{none,{error,badarg},true}");
        House.says("the link goes at both .. and the WATCH goes; its own WATCHES go");
        House y = settled("main() -> P = spawn(fun child/0), Q = spawn(fun child/0), link(P), watch(P), watch(Q), P ! {watch,Q}, receive after 1 -> P ! {die,normal}, receive stop -> 1 end end." + CHILD);
        House.due("LINKS of 0", y.house.process(0, 5), 1);
        House.due("WATCHES of 0", y.house.process(0, 6), 2);
        House.due("WATCHES of 1", y.house.process(1, 6), 1);
        y.house.clock(1);
        y.settle();
        House.due("1 has ENDED", y.reason(1), "normal");
        House.due("LINKS of 0 then", y.house.process(0, 5), 0);
        House.due("WATCHES of 0 then", y.house.process(0, 6), 1);
        House.due("WATCHES of 1 then", y.house.process(1, 6), 0);
        House.due("the message of the WATCH", y.show(0, 0, 0), "{down,#0,<1>,normal}");
        // Those of 1 count no more among the 200.
        House z = settled("main() -> P = spawn(fun() -> w(0), exit(x) end), receive after 1 -> w(0), print(catch watch(P)), print(catch watch(self())) end."
            + " w(200) -> ok; w(N) -> watch(idler()), w(N + 1). idler() -> case named(x) of none -> P = spawn(fun idle/0), name(x,P), P; P -> P end. idle() -> receive stop -> 1 end.");
        z.house.clock(1);
        z.settle();
        House.due("all 200 are free again", z.output(), "{error,badarg}/{error,badarg}");
    }

    private static void signals() {
        House.says("A SIGNAL with a REASON that comes to one that traps: the message {exit, P, REASON}; to others: nothing, if the REASON is normal, else that one ENDS with it");
        String text = "main() -> trap(TRAPS), P = spawn(fun child/0), link(P), P ! {die,REASON}, receive X -> print(X) end." + CHILD;
        String[] reasons = {"normal", "{x,[y]}", "kill", "killed", "none", "{normal}"};
        for (String reason : reasons) {
            House traps = settled(text.replace("TRAPS", "true").replace("REASON", reason));
            House.due("one that traps, " + reason, traps.output(), "{exit,<1>," + reason + "}");
            House other = settled(text.replace("TRAPS", "false").replace("REASON", reason));
            House.due("another one, " + reason, other.reason(0), reason.equals("normal") ? null : reason);
            House.due("how it is, " + reason, other.house.process(0, 0), reason.equals("normal") ? 1 : 3);
        }
        // By LINKS it goes on, with the same REASON.
        House chain = settled("main() -> A = spawn(fun child/0), B = spawn(fun child/0), C = spawn(fun child/0), A ! {link,B}, B ! {link,C}, C ! {link,self()}, receive after 1 -> exit(A,{far}), 1 end, receive stop -> 1 end." + CHILD);
        chain.house.clock(1);
        chain.settle();
        for (int p = 0; p < 4; p++) {
            House.due("process " + p, chain.reason(p), "{far}");
        }
        // One that traps keeps it from going on.
        House kept = settled("main() -> trap(true), A = spawn(fun child/0), B = spawn(fun child/0), link(A), link(B), A ! {die,x}, receive X -> print(X) end, receive after 1 -> print(alive(B)) end." + CHILD);
        kept.house.clock(1);
        kept.settle();
        House.due("the third one goes on", kept.output(), "{exit,<1>,x}/true");
    }

    private static void endedAtOnce() {
        House.says("One has ENDED at once: nothing comes to it any more");
        // 0 and 1 are linked and watch one another: 1 ENDS, 0 ENDS by it ahead of the message.
        House x = settled("main() -> P = spawn(fun child/0), link(P), watch(P), P ! {watch,self()}, P ! {die,x}, receive M -> print(M) end." + CHILD);
        House.due("0 has ENDED", x.reason(0), "x");
        House.due("no message came", x.house.process(0, 4), 0);
        House.due("nothing was printed", x.output(), "");
        // No room for the SIGNAL's message: it ENDS by that, and what it tells comes behind.
        House y = settled("main() -> trap(true), P = spawn(fun child/0), Q = spawn(fun child/0), watch(Q), P ! {link,Q}, Q ! {trap,true}, Q ! {make,248}, receive after 1 -> P ! {die,x}, hear() end." + HEAR + CHILD);
        House.due("496 cells", y.house.process(2, 2) >= 496 ? 1 : 0, 1);
        y.house.clock(1);
        y.settle();
        // {exit, P, x} has 4 cells: room for one.
        House.due("4 more have room", y.house.process(2, 4), 1);
        House z = settled("main() -> trap(true), P = spawn(fun child/0), Q = spawn(fun child/0), watch(Q), P ! {link,Q}, Q ! {trap,true}, Q ! {make,249}, receive after 1 -> P ! {die,x}, hear() end." + HEAR + CHILD);
        z.house.clock(1);
        z.settle();
        House.due("beside 498 they have none", z.reason(2), "heap");
        House.due("who watches hears of it", z.output(), "{down,#0,<2>,heap}");
        House watch = settled("main() -> P = spawn(fun child/0), Q = spawn(fun child/0), watch(Q), Q ! {watch,P}, Q ! {make,248}, receive after 1 -> P ! {die,x}, hear() end." + HEAR + CHILD);
        watch.house.clock(1);
        watch.settle();
        // {down, R, P, x} has 5 cells.
        House.due("no room for the message of a WATCH", watch.reason(2), "heap");
        House.due("who watches that one hears of it", watch.output(), "{down,#0,<2>,heap}");
        House.says("Cells are wanted .. together .. for all of a copy");
        // {exit, P, {x}} has 4 and 2 cells, {down, R, P, {x}} 5 and 2; a list of n has 2 * n.
        for (int n = 245; n <= 249; n++) {
            House exit = settled("main() -> P = spawn(fun child/0), Q = spawn(fun child/0), P ! {link,Q}, Q ! {trap,true}, Q ! {make," + n + "}, receive after 1 -> P ! {die,{x}} end." + CHILD);
            exit.house.clock(1);
            exit.settle();
            House.due("a SIGNAL's message beside " + 2 * n, exit.reason(2), 2 * n + 6 <= 500 ? null : "heap");
            House down = settled("main() -> P = spawn(fun child/0), Q = spawn(fun child/0), Q ! {watch,P}, Q ! {make," + n + "}, receive after 1 -> P ! {die,{x}} end." + CHILD);
            down.house.clock(1);
            down.settle();
            House.due("that of a WATCH beside " + 2 * n, down.reason(2), 2 * n + 7 <= 500 ? null : "heap");
        }
    }

    private static void exitOther() {
        House.says("exit(P, T): the ATOM kill: that one ENDS, killed, also if it traps; else a SIGNAL from the one that tells it");
        String text = "main() -> trap(true), P = spawn(fun child/0), P ! {trap,TRAPS}, receive after 1 -> print(exit(P,REASON)) end, receive after 1 -> 1 end." + CHILD;
        String[][] due = {{"kill", "true", "killed", "-"}, {"kill", "false", "killed", "-"}, {"x", "true", null, "{exit,<0>,x}"}, {"x", "false", "x", "-"},
            {"normal", "true", null, "{exit,<0>,normal}"}, {"normal", "false", null, "-"}, {"{kill}", "true", null, "{exit,<0>,{kill}}"}, {"{kill}", "false", "{kill}", "-"},
            {"killed", "false", "killed", "-"}, {"killed", "true", null, "{exit,<0>,killed}"}};
        for (String[] one : due) {
            House x = settled(text.replace("TRAPS", one[1]).replace("REASON", one[0]));
            x.house.clock(1);
            x.house.go(0, 0);
            House.due("exit(P, " + one[0] + ") of one that traps: " + one[1], x.reason(1), one[2]);
            House.due("its message", one[3].equals("-") ? "-" : x.show(1, 0, 0), one[3]);
            House.due("how many", x.house.process(1, 4), one[3].equals("-") ? 0 : 1);
            House.due("its value", x.output(), "true");
        }
        House gone = settled("main() -> P = spawn(fun() -> exit(early) end), receive after 1 -> print([exit(P,kill), exit(P,x), alive(P)]) end.");
        gone.house.clock(1);
        gone.settle();
        House.due("to one that has ENDED", gone.output(), "[true,true,false]");
        House.due("its REASON stays", gone.reason(1), "early");
        House kept = settled("main() -> P = spawn(fun() -> exit({early,[1,2]}) end), receive after 1 -> exit(P,{late,[3,4]}), exit(P,kill), {1,2,3} end.");
        kept.house.clock(1);
        kept.settle();
        House.due("also one that has cells", kept.reason(1), "{early,[1,2]}");
        // The REASON needs no cells of the one that ENDS, however many it uses, nor those of the one that told it.
        House full = settled("main() -> P = spawn(fun() -> child(mk(250,[])) end), receive after 1 -> exit(P,{full,[1,2,{3}],\"ab\"}), loop(300) end, receive stop -> 1 end."
            + " loop(0) -> 1; loop(N) -> {N,N,N,N}, loop(N - 1)." + CHILD);
        House.due("500 cells", full.house.process(1, 2), 500);
        full.house.clock(1);
        full.settle();
        House.due("its REASON", full.reason(1), "{full,[1,2,{3}],[97,98]}");
        House.due("the teller was CLEARED since", full.house.process(0, 3) > 1 ? 1 : 0, 1);
    }

    private static void toOneself() {
        House.says("(also to itself; normal to itself: it ENDS normal)");
        House.ends("exit(self(),x), print(never)", "x");
        House.ends("exit(self(),{x,[1]}), print(never)", "{x,[1]}");
        House.ends("exit(self(),normal), exit(other)", "normal");
        House.ends("exit(self(),kill), exit(other)", "killed");
        House.ends("trap(true), exit(self(),kill), exit(other)", "killed");
        House.prints("trap(true), print(exit(self(),x)), receive X -> print(X) end", "true/{exit,<0>,x}");
        // No catch hears of a SIGNAL.
        House.ends("catch exit(self(),x), exit(other)", "x");
        House.prints("exit(self(),x), print(never)", "");
    }

    private static void links() {
        House.says("link(P): once for two; to oneself nothing; to one that has ENDED: a SIGNAL none to the one that links.");
        House x = settled("main() -> P = spawn(fun child/0), print([link(P),link(P)]), P ! {link,self()}, print(link(self())), receive after 1 -> print([unlink(P),unlink(P),unlink(self())]) end, receive stop -> 1 end." + CHILD);
        House.due("true each time", x.output(), "[true,true]/true");
        House.due("one LINK", x.house.process(0, 5), 1);
        House.due("one LINK there", x.house.process(1, 5), 1);
        House.says("unlink, unwatch: it goes, if it is there (a WATCH of one's own).");
        x.house.clock(1);
        x.settle();
        House.due("true, too", x.line(2), "[true,true,true]");
        House.due("none is left", x.house.process(0, 5), 0);
        House.due("none there", x.house.process(1, 5), 0);
        House ended = settled("main() -> P = spawn(fun() -> 1 end), receive after 1 -> trap(true), print(link(P)), receive X -> print(X) end end.");
        ended.house.clock(1);
        ended.settle();
        House.due("one that traps", ended.output(), "true/{exit,<1>,none}");
        House other = settled("main() -> P = spawn(fun() -> 1 end), receive after 1 -> link(P), print(never) end.");
        other.house.clock(1);
        other.settle();
        House.due("another one ENDS", other.reason(0), "none");
        House.due("at once", other.output(), "");
        House all = settled("main() -> s(23), receive stop -> 1 end. s(0) -> ok; s(N) -> link(spawn(fun child/0)), s(N - 1)." + CHILD);
        House.due("to all others there are", all.house.process(0, 5), 23);
        House.due("the first", all.house.link(0, 0), 1);
        House.due("the last", all.house.link(0, 22), 23);
        House.due("none behind it", all.house.link(0, 23), MailHouse.NONE);
    }

    private static void watches() {
        House.says("watch of one that has ENDED: the message with none at once; of oneself: a REFERENCE alone");
        House x = settled("main() -> P = spawn(fun() -> exit(early) end), receive after 1 -> print(watch(P)), print(watch(self())) end, hear()." + HEAR);
        x.house.clock(1);
        x.settle();
        House.due("none, whatever its REASON", x.output(), "#0/#1/{down,#0,<1>,none}");
        House.due("no WATCH is left", x.house.process(0, 6), 0);
        House.due("two REFERENCES", x.house.count(8), 2);
        House y = settled("main() -> P = spawn(fun child/0), print([watch(P),watch(P)]), receive stop -> 1 end." + CHILD);
        House.due("as often as it is told", y.house.process(0, 6), 2);
        House.says("unlink, unwatch: it goes, if it is there (a WATCH of one's own).");
        House z = settled("main() -> P = spawn(fun child/0), R = watch(P), S = watch(P), print([unwatch(R),unwatch(R),unwatch(ref())]), P ! {die,x}, hear()." + HEAR + CHILD);
        House.due("true each time; the other one stays", z.output(), "[true,true,true]/{down,#1,<1>,x}");
        House other = settled("main() -> P = spawn(fun child/0), R = watch(P), spawn(fun() -> print(unwatch(R)) end), receive stop -> 1 end." + CHILD);
        House.due("another's", other.output(), "true");
        House.due("stays", other.house.process(0, 6), 1);
    }

    /** WATCHES of several by several: those that are left keep who watches, whom, and by which REFERENCE. */
    private static void watchesThatStay() {
        House.says("for each WATCH of it, in that order, the watcher gets the message .. and the WATCH goes; its own WATCHES go .. unwatch: it goes, if it is there (a WATCH of one's own)");
        String text = "main() -> A = spawn(fun child/0), B = spawn(fun child/0), C = spawn(fun child/0), D = spawn(fun child/0), R = watch(D), A ! {watch,C}, watch(A), B ! {watch,A}, watch(C), A ! {watch,D},"
            + " receive after 1 -> MORE, receive after 1 -> C ! {die,x}, hear() end end." + HEAR + CHILD;
        String[] more = {"ok", "unwatch(R)", "B ! {die,y}", "A ! {die,z}"};
        // Process 0 makes R, #1 and #2, 1 then #3 and #4, 2 then #5.
        String[] heard = {"{down,#2,<3>,x}", "{down,#2,<3>,x}", "{down,#2,<3>,x}", "{down,#1,<1>,z}/{down,#2,<3>,x}"};
        int[][] left = {{2, 1, 1, 0, 0}, {1, 1, 1, 0, 0}, {2, 1, 0, 0, 0}, {1, 0, 0, 0, 0}};
        for (int i = 0; i < more.length; i++) {
            House x = settled(text.replace("MORE", more[i]));
            House.due("WATCHES of 0", x.house.process(0, 6), 3);
            House.due("WATCHES of 1", x.house.process(1, 6), 2);
            House.due("WATCHES of 2", x.house.process(2, 6), 1);
            for (int n = 0; n < 2; n++) {
                x.house.clock(1);
                x.settle();
            }
            House.due("what 0 heard, with " + more[i], x.output(), heard[i]);
            for (int p = 0; p < 5; p++) {
                House.due("WATCHES of " + p + " then, with " + more[i], x.house.process(p, 6), left[i][p]);
            }
            House.due("what 1 heard, with " + more[i], i == 3 ? null : x.show(1, 0, 0), i == 3 ? null : "{down,#3,<3>,x}");
            House.due("what 2 heard, with " + more[i], i != 3 ? null : x.show(2, 0, 0), i != 3 ? null : "{down,#5,<1>,z}");
        }
    }

    private static void againInTheNextRun() {
        House.says("A run begins anew .. When a PROCESS ENDS with a REASON");
        House x = House.of("main() -> trap(true), P = spawn(fun child/0), Q = spawn(fun child/0), link(P), watch(Q), name(n,Q), P ! {die,a}, Q ! {die,b}, receive stop -> 1 end." + CHILD);
        for (int run = 0; run < 3; run++) {
            x.house.begin(0);
            x.settle();
            House.due("LINKS of 0", x.house.process(0, 5), 0);
            House.due("WATCHES of 0", x.house.process(0, 6), 0);
            House.due("messages", x.show(0, 0, 0) + x.show(0, 0, 1) + x.show(0, 0, 2), "{exit,<1>,a}{down,#0,<2>,b}null");
        }
    }

    private static void manyWatches() {
        House.says("badarg as long as there are 200 WATCHES in all");
        String text = "main() -> P = spawn(fun child/0), Q = spawn(fun child/0), fill(Q,COUNT), R = (catch watch(P)), print(R), print(catch watch(self())), print(ref()), receive stop -> 1 end."
            + " fill(_,0) -> ok; fill(P,N) -> watch(P), fill(P,N - 1)." + CHILD;
        House x = settled(text.replace("COUNT", "199"));
        House.due("the 200th, then none", x.output(), "#199/{error,badarg}/#200");
        House.due("200", x.house.process(0, 6), 200);
        House y = settled(text.replace("COUNT", "200"));
        House.due("no 201st, and no REFERENCE is made", y.output(), "{error,badarg}/{error,badarg}/#200");
        House z = settled("main() -> P = spawn(fun child/0), R = watch(P), fill(P,199), print(catch watch(P)), unwatch(R), print(watch(P)), print(catch watch(P)), receive stop -> 1 end."
            + " fill(_,0) -> ok; fill(P,N) -> watch(P), fill(P,N - 1)." + CHILD);
        House.due("one goes, one comes", z.output(), "{error,badarg}/#200/{error,badarg}");
        // Of several that watch
        House all = settled("main() -> P = spawn(fun child/0), spawn(fun() -> fill(P,120), receive stop -> 1 end end), fill(P,79), receive after 1 -> print(watch(P)), print(catch watch(P)) end, receive stop -> 1 end."
            + " fill(_,0) -> ok; fill(P,N) -> watch(P), fill(P,N - 1)." + CHILD);
        all.house.clock(1);
        all.settle();
        House.due("in all", all.output(), "#199/{error,badarg}");
        House.due("of the first", all.house.process(0, 6), 80);
        House.due("of the other one", all.house.process(2, 6), 120);
    }

    private static void refusedOnesChangeNothing() {
        House.says("WRONG .. badarg (PREDEFINED ones with terms that they do not take");
        // unwatch(0) is not unwatch(#0); trap(a) is not trap(false).
        House x = settled("main() -> P = spawn(fun child/0), R = watch(P), print([R, catch unwatch(0), catch unwatch(a), catch unwatch(P)]), P ! {die,x}, hear()." + HEAR + CHILD);
        House.due("the WATCH stays", x.output(), "[#0,{error,badarg},{error,badarg},{error,badarg}]/{down,#0,<1>,x}");
        House.prints("trap(true), print([catch trap(a), catch trap(0), catch trap([])]), print(trap(false)), print(catch trap(1)), print(trap(true))",
            "[{error,badarg},{error,badarg},{error,badarg}]/true/{error,badarg}/false");
    }

    private static void names() {
        House.says("name: an ATOM to one that goes on; badarg, if it is named so already, or that one has a name, or has ENDED; unname: badarg, if none is named so.");
        House.prints("P = spawn(fun() -> 1 end), print([name(a,P), catch name(a,self()), catch name(a,P), catch name(b,P), name(b,self())])",
            "[true,{error,badarg},{error,badarg},{error,badarg},true]");
        House.prints("print([name(a,self()), unname(a), catch unname(a), name(b,self()), catch unname(a)])", "[true,true,{error,badarg},true,{error,badarg}]");
        House ended = settled("main() -> P = spawn(fun() -> 1 end), receive after 1 -> print([catch name(a,P), named(a), catch unname(a)]) end.");
        ended.house.clock(1);
        ended.settle();
        House.due("one that has ENDED", ended.output(), "[{error,badarg},none,{error,badarg}]");
        House waits = settled("main() -> P = spawn(fun child/0), receive after 1 -> print([name(true,P), named(true)]) end, receive stop -> 1 end." + CHILD);
        waits.house.clock(1);
        waits.settle();
        House.due("one that WAITS", waits.output(), "[true,<1>]");
        House.due("its name's ATOM", waits.house.process(1, 8), 0);
        House other = settled("main() -> name(a,self()), spawn(fun() -> print(unname(a)) end), receive stop -> 1 end.");
        House.due("another may take it away", other.output(), "true");
        House.due("no name", other.house.process(0, 8), MailHouse.NONE);
    }

    private static void processes() {
        House.says("named(A): the PROCESS, or none");
        String idle = " idle() -> receive stop -> 1 end.";
        House all = settled("main() -> L = s(23), name(a,hd(L)), name(b,self()), print([named(a),named(b),named(c)]), print(catch c ! 1). s(0) -> []; s(N) -> [spawn(fun idle/0)|s(N - 1)]." + idle);
        House.due("24 of them", all.house.count(4), 24);
        House.due("with all of them there", all.output(), "[<1>,<0>,none]/{error,badarg}");
        House.says("At most 24 PROCESSES ever .. unlink, unwatch: it goes, if it is there");
        String[] whichGo = {"unlink(hd(L))", "exit(hd(L),kill)", "unlink(e(L))", "exit(e(L),kill)", "unlink(23)"};
        for (String goes : whichGo) {
            House linked = settled("main() -> trap(true), L = s(23), catch " + goes + ", receive stop -> L end. e([P]) -> P; e([_|T]) -> e(T). s(0) -> []; s(N) -> P = spawn(fun idle/0), link(P), [P|s(N - 1)]." + idle);
            int first = goes.contains("hd") ? 2 : 1;
            int last = goes.contains("e(L)") ? 22 : 23;
            House.due("LINKS behind " + goes, linked.house.process(0, 5), last - first + 1);
            House.due("the first one", linked.house.link(0, 0), first);
            House.due("the last one", linked.house.link(0, last - first), last);
        }
        House again = House.of("main() -> name(a,spawn(fun idle/0)), name(b,self()). other() -> print([named(a),named(b)]), P = spawn(fun idle/0), print([named(a),named(b)]), print(name(a,P))." + idle);
        again.run(0);
        again.run(1);
        House.due("names of the run before are gone", again.output(), "[none,none]/[none,none]/true");
        House.says("At most 24 PROCESSES ever: spawn beyond that: badarg.");
        House x = settled("main() -> s(22), print(spawn(fun() -> 1 end)), print(catch spawn(fun() -> 1 end)), receive after 1 -> print(catch spawn(fun() -> 1 end)) end. s(0) -> ok; s(N) -> spawn(fun() -> 1 end), s(N - 1).");
        House.due("the 24th, and no more", x.output(), "<23>/{error,badarg}");
        House.due("24", x.house.count(4), 24);
        House.due("PROCESS 23", x.house.process(23, 0), 3);
        House.due("PROCESS 24", x.house.process(24, 0), MailHouse.NONE);
        x.house.clock(1);
        x.settle();
        House.due("nor when all others have ENDED", x.line(2), "{error,badarg}");
        x.house.begin(0);
        House.due("a new run has its own", x.house.count(4), 1);
        x.settle();
        House.due("24 again", x.house.count(4), 24);
    }
}
