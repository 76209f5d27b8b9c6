import java.util.NoSuchElementException;
import java.util.Random;

/**
 * All promises: calls with any arguments in any state answer, or throw what the document names and nothing else; and
 * the same calls give the same answers again.
 */
public final class WildTest {
    private static final String[] PIECES = {"main() -> ", "f(X) -> ", ", ", "; ", ".\n", "X", "Y", "_", "f(X)", "f(", ")", "(", "{", "}", "[", "]",
        "|", " = ", " ! ", " + ", " - ", " * ", " div ", " rem ", " ++ ", " -- ", " == ", " < ", " andalso ", " orelse ", "not ", "- ", "catch ",
        "begin ", " end", "case ", " of ", " -> ", "if ", "receive ", " after ", "fun(", "fun f/1", "spawn(fun() -> ", "self()", "exit(", "link(",
        "watch(", "trap(true)", "1", "0", "2147483647", "\"ab\"", "a", "ok", "true", " when ", "print(", "%", "\n", "@", "\""};
    private static final String[] TEXTS = {
        "main() -> P = spawn(fun g/0), link(P), f(P,[]).\nf(P,A) -> P ! A, f(P,[A|A]).\ng() -> trap(true), h([]).\nh(L) -> receive X -> h([X|L]) after 3 -> h(L) end.",
        "main() -> f(0).\nf(N) -> catch g(N), f(N + 1).\ng(N) when N rem 3 == 0 -> error({N}); g(N) when N rem 3 == 1 -> throw([N,N]); g(N) -> 1 + g(N + 3).",
        "main() -> s(self()).\ns(P) -> Q = spawn(fun() -> watch(P), link(P), s(P) end), Q ! {P,Q}, receive X -> print(X), s(Q) after 1 -> exit(Q,kill) end.",
        "main() -> X = d(7,{}), f(X).\nd(0,A) -> A; d(N,A) -> d(N - 1,{A,A}).\nf(T) -> f(catch error(T)).",
        "main() -> trap(true), f(spawn(fun main/0)).\nf(P) -> link(P), watch(P), exit(P,{self(),\"abcdefgh\"}), receive M -> print(M), f(P) end."};

    public static void main(String[] args) {
        for (int seed = 0; seed < 400; seed++) {
            long first = run(seed);
            House.due("run " + seed + " again", run(seed), first);
        }
        House.close();
    }

    /** A sum over all answers of one run of 512 calls. */
    private static long run(int seed) {
        Random random = new Random(seed);
        Counted house = new Counted();
        String text = seed % 2 == 0 ? TEXTS[seed / 2 % TEXTS.length] : soup(random);
        long sum = 0;
        for (int i = 0; i < text.length(); i += 20) {
            sum = sum * 31 + house.feed(word(text, i), word(text, i + 4), word(text, i + 8), word(text, i + 12), word(text, i + 16));
        }
        house.back((20 - text.length() % 20) % 20);
        sum = sum * 31 + house.read();
        // One step makes two calls at most.
        while (house.left() > 1) {
            sum = sum * 31 + one(house, random);
        }
        return sum;
    }

    private static String soup(Random random) {
        StringBuilder text = new StringBuilder("main() -> f(1).\nf(X) -> ");
        int pieces = random.nextInt(60);
        for (int i = 0; i < pieces; i++) {
            text.append(PIECES[random.nextInt(PIECES.length)]);
        }
        return text.append('.').toString();
    }

    private static int word(String text, int at) {
        int word = 0;
        for (int i = at; i < at + 4; i++) {
            word = word << 8 | (i < text.length() ? text.charAt(i) : ' ');
        }
        return word;
    }

    private static int any(Random random) {
        switch (random.nextInt(12)) {
            case 0:
                return random.nextInt();
            case 1:
                return Integer.MIN_VALUE;
            case 2:
                return Integer.MAX_VALUE;
            case 3:
                return -1;
            case 4:
                return random.nextInt(600);
            default:
                return random.nextInt(5);
        }
    }

    private static long one(Counted house, Random random) {
        int a = any(random);
        int b = any(random);
        int c = any(random);
        try {
            switch (random.nextInt(24)) {
                case 0:
                    return house.feed(a, b, c, a, b);
                case 1:
                    return house.back(a);
                case 2:
                    return random.nextInt(20) == 0 ? house.read() : 0;
                case 3:
                    return house.count(a);
                case 4:
                    return house.function(a, b);
                case 5:
                    return house.letter(a, b);
                case 6:
                    if (random.nextInt(5) == 0) {
                        house.begin(a);
                    }
                    return 1;
                case 7:
                    return house.clock(a);
                case 8:
                case 9:
                    house.send(a, b, c);
                    return 2;
                case 10:
                    return house.process(a, b);
                case 11:
                    return house.frame(a, b, c);
                case 12:
                    return house.link(a, b);
                case 13:
                    return house.show(a, b, c);
                case 14:
                    return house.shown(a);
                case 15:
                    return house.printed(a, b);
                case 16:
                    house.begin(0);
                    return house.go(0, 500);
                default:
                    return house.go(random.nextInt(Math.max(1, house.count(4))), random.nextInt(501));
            }
        } catch (IllegalStateException thrown) {
            return 1001;
        } catch (NoSuchElementException thrown) {
            return 1002;
        } catch (IllegalArgumentException thrown) {
            return 1003;
        }
    }
}
