import java.util.ArrayList;
import java.util.List;
import java.util.NoSuchElementException;
import java.util.Random;

/**
 * All promises: programs that are grown by the grammar are read without a fault, and whatever is called then, what
 * can be asked keeps to the limits that the document names.
 */
public final class GrownTest {
    private static final int PROGRAMS = 300;

    private final Random random;
    private final StringBuilder text = new StringBuilder();
    /** The NAMES that are bound at this place. */
    private final List<String> bound = new ArrayList<>();
    private int made;
    private int budget;

    private GrownTest(int seed) {
        random = new Random(seed);
    }

    public static void main(String[] args) {
        for (int seed = 0; seed < PROGRAMS; seed++) {
            String program = new GrownTest(seed).program();
            House x = new House().feed(program);
            House.due("read of " + program, x.house.read(), 0);
            live(x, new Random(seed), program);
        }
        House.close();
    }

    private int any(int n) {
        return random.nextInt(n);
    }

    private String one(String... of) {
        return of[any(of.length)];
    }

    private String program() {
        text.append("main() -> ");
        clauseBody(40);
        text.append(".\nstart() -> trap(true), P = spawn(fun main/0), link(P), watch(P), P ! {self(),[1,2]}, main().\n");
        for (String name : new String[] {"f", "g"}) {
            int patterns = name.equals("f") ? 1 : 2;
            for (int clause = 0; clause < 3; clause++) {
                text.append(clause == 0 ? "" : "; ").append(name).append('(');
                bound.clear();
                for (int i = 0; i < patterns; i++) {
                    text.append(i == 0 ? "" : ",");
                    pattern(clause == 2 ? 0 : 2);
                }
                text.append(')');
                guard();
                text.append(" -> ");
                clauseBody(14);
            }
            text.append(".\n");
        }
        return text.toString();
    }

    private void clauseBody(int most) {
        budget = most;
        body(0);
        bound.clear();
    }

    private void guard() {
        if (any(3) == 0) {
            text.append(" when ");
            test();
        }
    }

    private void test() {
        String term = bound.isEmpty() ? "1" : bound.get(any(bound.size()));
        text.append(one("is_atom(T)", "is_list(T)", "is_tuple(T)", "T > 1", "T == {T}", "hd(T) == 1", "length(T) < 9", "not T", "T orelse true", "size(T) > 1, true", "[T|T] /= T").replace("T", term));
    }

    private void pattern(int depth) {
        int kind = depth <= 0 ? any(2) : any(8);
        switch (kind) {
            case 0:
                text.append('_');
                break;
            case 1:
            case 2:
                name();
                break;
            case 3:
                text.append(one("1", "-1", "a", "ok", "\"ab\"", "[]", "{}"));
                break;
            case 4:
                text.append('{');
                pattern(depth - 1);
                text.append(',');
                pattern(depth - 1);
                text.append('}');
                break;
            default:
                text.append('[');
                pattern(depth - 1);
                text.append('|');
                pattern(depth - 1);
                text.append(']');
                break;
        }
    }

    /** A NAME in a P: one that is bound there already, or a new one. */
    private void name() {
        if (!bound.isEmpty() && any(8) == 0) {
            text.append(bound.get(any(bound.size())));
            return;
        }
        String name = "X" + made++ % 30;
        text.append(name);
        if (!bound.contains(name)) {
            bound.add(name);
        }
    }

    private void body(int depth) {
        int mark = bound.size();
        int count = 1 + any(3);
        for (int i = 0; i < count; i++) {
            text.append(i == 0 ? "" : ", ");
            expression(depth + 2);
        }
        forget(mark);
    }

    private void forget(int mark) {
        while (bound.size() > mark) {
            bound.remove(bound.size() - 1);
        }
    }

    private void leaf() {
        if (!bound.isEmpty() && any(2) == 0) {
            text.append(bound.get(any(bound.size())));
            return;
        }
        text.append(one("0", "1", "2147483647", "a", "ok", "true", "kill", "normal", "[]", "{}", "\"abc\"", "self()", "ref()", "now()", "fun f/1", "fun main/0"));
    }

    private void expression(int depth) {
        budget--;
        if (budget <= 0 || depth > 7) {
            leaf();
            return;
        }
        int mark = bound.size();
        switch (any(22)) {
            case 0:
            case 1:
            case 2:
                around("f(", depth, ")");
                break;
            case 3:
                around("g(", depth, ",");
                expression(depth + 1);
                text.append(')');
                break;
            case 4:
                around("{", depth, ",");
                expression(depth + 1);
                text.append('}');
                break;
            case 5:
                around("[", depth, "|");
                expression(depth + 1);
                text.append(']');
                break;
            case 6:
                matching(depth);
                break;
            case 7:
                around("(catch ", depth, ")");
                forget(mark);
                break;
            case 8:
                around("begin ", depth, " end");
                forget(mark);
                break;
            case 9:
                around("case ", depth, " of ");
                parts(depth);
                text.append(" end");
                break;
            case 10:
                text.append("if ");
                test();
                text.append(" -> ");
                body(depth + 1);
                text.append("; true -> ");
                body(depth + 1);
                text.append(" end");
                break;
            case 11:
            case 12:
                text.append("receive ");
                parts(depth);
                text.append(" after ").append(one("0", "1", "5", "infinity")).append(" -> ");
                body(depth + 1);
                text.append(" end");
                break;
            case 13:
                fun(depth);
                break;
            case 14:
                text.append("spawn(fun() -> ");
                body(depth + 1);
                text.append(" end)");
                break;
            case 15:
                around("(", depth, ")");
                text.append(one(" + ", " - ", " * ", " ++ ", " -- ", " == ", " < ", " div ", " rem "));
                around("(", depth, ")");
                break;
            case 16:
                around("(", depth, ")");
                int second = bound.size();
                text.append(one(" andalso ", " orelse "));
                around("(", depth, ")");
                forget(second);
                break;
            case 17:
                around("(self() ! ", depth, ")");
                break;
            default:
                around(one("print(", "link(", "watch(", "unlink(", "throw(", "exit(", "error(", "exit(self(),", "named(", "hd(", "tl(", "length(", "size(", "- (", "not (", "spawn("), depth, ")");
                break;
        }
    }

    private void around(String ahead, int depth, String behind) {
        text.append(ahead);
        expression(depth + 1);
        text.append(behind);
    }

    /** What is behind = is worked out first: its NAMES are bound ahead of those of the P. */
    private void matching(int depth) {
        int start = text.length();
        expression(depth + 1);
        String value = text.substring(start);
        text.setLength(start);
        text.append('(');
        pattern(1);
        text.append(" = (").append(value).append("))");
    }

    private void parts(int depth) {
        for (int i = 0; i < 2; i++) {
            int mark = bound.size();
            text.append(i == 0 ? "" : "; ");
            pattern(i == 0 ? 2 : 0);
            guard();
            text.append(" -> ");
            body(depth + 1);
            forget(mark);
        }
    }

    private void fun(int depth) {
        List<String> around = new ArrayList<>(bound);
        bound.clear();
        text.append("(fun(");
        pattern(1);
        text.append(')');
        for (String name : around) {
            if (!bound.contains(name)) {
                bound.add(name);
            }
        }
        text.append(" -> ");
        body(depth + 1);
        text.append(" end)");
        bound.clear();
        bound.addAll(around);
        around("(", depth, ")");
    }

    /** Random calls, and behind each of them what can be asked of one process. */
    private static void live(House x, Random random, String program) {
        x.house.begin(random.nextInt(2));
        while (x.house.left() > 40) {
            int p = random.nextInt(x.house.count(4));
            step(x, random, p);
            within("PROCESSES", x.house.count(4), 1, 24, program);
            int[] most = {3, 60, 500, 1000000, 30, 23, 200, 1, 200, 100000, 2147483647, 4000};
            boolean ended = x.house.process(p, 0) == 3;
            for (int what = 0; what < 12; what++) {
                int least = what == 8 || what == 10 ? -1 : what == 1 && !ended ? 1 : 0;
                int got = x.house.process(p, what);
                within("process " + what, got, least, ended && what != 0 && what != 3 && what != 9 ? Math.max(least, 0) : most[what], program);
            }
            if (!ended) {
                within("NAMES", x.house.frame(p, 0, 2), 0, 40, program);
                within("their lines", x.house.frame(p, 0, 1), 0, 4, program);
                within("LINK", x.house.link(p, 0), -1, 23, program);
            }
            within("SHOWN", x.house.show(p, random.nextInt(4), 0), -1, 100, program);
            within("lines", x.house.count(5), 0, 200, program);
        }
    }

    private static void within(String what, int got, int least, int most, String program) {
        if (got < least || got > most) {
            House.due(what + " of " + least + " .. " + most + " in " + program, got, most);
        }
    }

    private static void step(House x, Random random, int p) {
        try {
            switch (random.nextInt(8)) {
                case 0:
                    x.house.send(p, random.nextInt(3), random.nextInt(22));
                    break;
                case 1:
                    x.house.clock(random.nextInt(4));
                    break;
                default:
                    int n = random.nextInt(4) == 0 ? 500 : random.nextInt(30);
                    within("CALLS that began", x.house.go(p, n), 0, n, "go");
                    break;
            }
        } catch (IllegalStateException | IllegalArgumentException | NoSuchElementException refused) {
            // It has ENDED or waits, which any step may come upon.
            return;
        }
    }
}
