/** Promise 4: faults 4 to 7 of the rules, and where NAMES are bound. */
public final class RulesTest {
    public static void main(String[] args) {
        functions();
        names();
        scopes();
        funs();
        calls();
        guards();
        theFirstFault();
        House.close();
    }

    private static void fine(String text) {
        House.faultDue(text, 0, 0);
    }

    private static void functions() {
        House.faultDue("a(1) -> 1;\nb(2) -> 2.", 4, 2);
        House.faultDue("a(1) -> 1;\na() -> 2.", 4, 2);
        House.faultDue("a() -> 1.\nb() -> 1.\na() -> 2.", 4, 3);
        fine("a() -> 1. a(_) -> 2.");
        House.faultDue("a() -> 1.\nself() -> 2.", 4, 2);
        House.faultDue("\nexit(_,_) -> 2.", 4, 2);
        House.faultDue("exit(_) -> 2.", 4, 1);
        House.faultDue("hd(_) -> 2.", 4, 1);
        fine("self(_) -> 1. exit() -> 1. hd() -> 1. exit(_,_,_) -> 1.");
        // A CLAUSE of another FUNCTION's name is none of that FUNCTION.
        House.faultDue("a() -> b().\nc() -> 1; b() -> 2.", 6, 1);
    }

    private static void names() {
        House.faultDue("a() -> X.", 5, 1);
        House.faultDue("a() -> _.", 5, 1);
        House.faultDue("a() -> {1,\n_}.", 5, 2);
        fine("a(_) -> _ = 1.");
        fine("a(_X) -> _X.");
        House.faultDue("a() -> X = X.", 5, 1);
        House.faultDue("a() -> {X,\nY} =\n Y.", 5, 3);
        fine("a() -> X = 1, X = X.");
        fine("a(X,X) -> X.");
        House.faultDue("a(X) -> 1; a(_) ->\nX.", 5, 2);
        House.faultDue("a(X) -> 1. b() ->\nX.", 5, 2);
        fine("a() -> {X = 1, X}.");
        House.faultDue("a() -> {\nX, X = 1}.", 5, 2);
        fine("a() -> [X = 1, X | X].");
        fine("a(_) -> a((X = 1) + X) + X.");
        fine("a() -> (X = self()) ! X.");
        fine("a() -> X = (Y = 1), X + Y.");
    }

    private static void scopes() {
        House.faultDue("a() -> begin X = 1 end,\nX.", 5, 2);
        fine("a() -> begin X = 1, X end.");
        fine("a() -> (X = 1), X.");
        House.faultDue("a() -> case 1 of X -> X end,\nX.", 5, 2);
        House.faultDue("a() -> case 1 of 1 -> X = 1 end,\nX.", 5, 2);
        fine("a() -> case X = 1 of 1 -> X end, X.");
        House.faultDue("a() -> case 1 of X -> 1; 2 ->\nX end.", 5, 2);
        fine("a() -> case 1 of X when X > 0 -> X; X -> X end.");
        House.faultDue("a() -> if true -> X = 1 end,\nX.", 5, 2);
        House.faultDue("a() -> if true -> X = 1; true ->\nX end.", 5, 2);
        House.faultDue("a() -> receive X -> X after 1 ->\nX end.", 5, 2);
        House.faultDue("a() -> receive after X = 1 ->\nX end.", 5, 2);
        House.faultDue("a() -> receive 1 -> 2 after X = 1 -> 1 end,\nX.", 5, 2);
        fine("a() -> receive after begin X = 1, X end -> 1 end.");
        House.faultDue("a() -> catch X = 1,\nX.", 5, 2);
        House.faultDue("a() -> (catch X = 1) ==\nX.", 5, 2);
        House.faultDue("a() -> true andalso (X = true),\nX.", 5, 2);
        House.faultDue("a() -> true orelse (X = true) orelse\nX.", 5, 2);
        fine("a() -> (X = true) andalso X, X.");
        fine("a() -> true andalso begin X = true, X end.");
    }

    private static void funs() {
        fine("a(X) -> fun() -> X end.");
        fine("a(X) -> fun(X) -> X end.");
        fine("a(X) -> fun() when X > 1 -> X = 1 end.");
        House.faultDue("a() -> fun(X) -> X end,\nX.", 5, 2);
        House.faultDue("a() -> fun() ->\nX end.", 5, 2);
        House.faultDue("a() -> {fun() -> 1,\nX end, X = 1}.", 5, 2);
        fine("a(X) -> fun(Y) -> fun(Z) -> {X,Y,Z} end end.");
        House.faultDue("a() -> F = fun() ->\nF() end.", 5, 2);
    }

    private static void calls() {
        House.faultDue("a() -> b().", 6, 1);
        House.faultDue("a() -> a(1).", 6, 1);
        House.faultDue("a() -> self(1).", 6, 1);
        House.faultDue("a() -> fun\na/1.", 6, 2);
        House.faultDue("a() -> fun\nself/0.", 6, 2);
        fine("a() -> fun a/0.");
        fine("a() -> (b)(1).");
        House.faultDue("a() -> b(\nX).", 6, 1);
        fine("a() -> {self(), spawn(a), link(a), unlink(a), watch(a), unwatch(a), trap(a)}, {exit(a), exit(a,b), throw(a), error(a), print(a)},"
            + " {ref(), name(a,b), unname(a), named(a), alive(a), now()}.");
    }

    private static void guards() {
        fine("a(X) when X == 1, {X,[X|a]} /= (3), not is_atom(X), - X < 2, X > 1 andalso X =< 2 orelse X >= 3 -> 1.");
        fine("a(X) when is_number(X), is_atom(X), is_list(X), is_tuple(X), is_fun(X), is_process(X), is_ref(X) -> 1.");
        fine("a(X) when hd(X), tl(X), length(X), element(X,X), size(X), X + 1 - 2 * 3 div 4 rem 5 -> 1.");
        House.faultDue("a() when \"s\" == 1 -> 1.", 7, 1);
        House.faultDue("a() when\nself() -> 1.", 7, 2);
        House.faultDue("a() when 1 ==\na() -> 1.", 7, 2);
        House.faultDue("a() when 1 ==\nb() -> 1.", 6, 2);
        House.faultDue("a() when [] ++\n[] -> 1.", 7, 1);
        House.faultDue("a() when []\n-- [] -> 1.", 7, 2);
        House.faultDue("a() when catch\n1 -> 1.", 7, 1);
        House.faultDue("a() when 1\n! 2 -> 1.", 7, 2);
        House.faultDue("a() when X\n= 1 -> 1.", 7, 2);
        House.faultDue("a() when {X,\n\"s\"}\n= 1 -> 1.", 7, 3);
        House.faultDue("a() when {\nbegin 1 end} -> 1.", 7, 2);
        House.faultDue("a() when\ncase 1 of 1 -> 1 end -> 1.", 7, 2);
        House.faultDue("a() when\nif true -> 1 end -> 1.", 7, 2);
        House.faultDue("a() when\nreceive 1 -> 1 end -> 1.", 7, 2);
        House.faultDue("a() when\nfun() -> 1 end -> 1.", 7, 2);
        House.faultDue("a() when\nfun\na/0 -> 1.", 7, 2);
        House.faultDue("a(X) when\nX\n(1) -> 1.", 7, 2);
        House.faultDue("a() when\nX\n(1) -> 1.", 5, 2);
        House.faultDue("a() when (\nX) -> 1.", 5, 2);
        House.faultDue("a() when _ -> 1.", 5, 1);
        House.faultDue("a() -> if\nself() -> 1 end.", 7, 2);
        House.faultDue("a() -> case 1 of 1 when\nself() -> 1 end.", 7, 2);
        House.faultDue("a() -> receive 1 when\nself() -> 1 end.", 7, 2);
        House.faultDue("a() -> fun() when\nself() -> 1 end.", 7, 2);
        fine("a(X) -> fun(Y) when X > Y -> self() end.");
    }

    private static void theFirstFault() {
        // Those of the text go ahead of those of the rules, those of limits come last.
        House.faultDue("a() -> X.\na() -> )", 2, 2);
        House.faultDue("a() -> b().\na() -> X.", 6, 1);
        House.faultDue("a() -> X = X\n+ b().", 5, 1);
        House.faultDue("a() -> {b(), X}.", 6, 1);
        House.faultDue("a() -> {X, b()}.", 5, 1);
        House.faultDue("self() -> X.", 4, 1);
        House.faultDue("a() -> Y =\nb(X).", 6, 2);
        House.faultDue("a() -> receive 1 ->\nX after\nY -> 1 end.", 5, 2);
    }
}
