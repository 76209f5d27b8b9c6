import java.util.NoSuchElementException;

/** What the tests share: an object with a text, and answers that are compared with those that are due. */
final class House {
    private static int looked;
    private static int wrong;
    private static String sentence = "";

    final Counted house = new Counted();

    /** Feeds a text, whose bytes are its characters. */
    House feed(String text) {
        int[] word = new int[5];
        int filled = (text.length() + 19) / 20 * 20;
        for (int i = 0; i < filled; i += 20) {
            for (int k = 0; k < 5; k++) {
                word[k] = 0;
                for (int j = 0; j < 4; j++) {
                    int at = i + 4 * k + j;
                    word[k] = word[k] << 8 | (at < text.length() ? text.charAt(at) & 255 : 0);
                }
            }
            if (house.feed(word[0], word[1], word[2], word[3], word[4]) == MailHouse.NONE) {
                throw new IllegalArgumentException("the text is too long for the tape");
            }
        }
        house.back(filled - text.length());
        return this;
    }

    /** An object whose program is this text. */
    static House of(String text) {
        House made = new House().feed(text);
        due("read of " + text, made.house.read(), 0);
        return made;
    }

    /** What read() answers for a text on a new object. */
    static int fault(String text) {
        return new House().feed(text).house.read();
    }

    static void faultDue(String text, int number, int line) {
        due("read of " + text, fault(text), number + 16 * line);
    }

    /** Begins a FUNCTION and lets process 0 go on as far as it can in one call. */
    House run(int f) {
        house.begin(f);
        house.go(0, 500);
        return this;
    }

    /** Lets every process go on until none can. */
    House settle() {
        boolean moved = true;
        for (int round = 0; moved && round < 100; round++) {
            moved = false;
            for (int p = 0; p < house.count(4); p++) {
                int state = house.process(p, 0);
                if (state == 0 || state == 2) {
                    house.go(p, 500);
                    moved = true;
                }
            }
        }
        return this;
    }

    String line(int i) {
        StringBuilder text = new StringBuilder();
        for (int sign = house.printed(i, 0); sign != MailHouse.NONE; sign = house.printed(i, text.length())) {
            text.append((char) sign);
        }
        return text.toString();
    }

    /** All lines of OUTPUT with / between. */
    String output() {
        StringBuilder text = new StringBuilder();
        for (int i = 0; i < house.count(5); i++) {
            text.append(i == 0 ? "" : "/").append(line(i));
        }
        return text.toString();
    }

    String show(int p, int what, int i) {
        int length = house.show(p, what, i);
        if (length == MailHouse.NONE) {
            return null;
        }
        StringBuilder text = new StringBuilder();
        for (int k = 0; k < length; k++) {
            text.append((char) house.shown(k));
        }
        due("shown behind the end", house.shown(length), MailHouse.NONE);
        return text.toString();
    }

    String reason(int p) {
        return show(p, 3, 0);
    }

    String atom(int a) {
        StringBuilder text = new StringBuilder();
        for (int sign = house.letter(a, 0); sign != MailHouse.NONE; sign = house.letter(a, text.length())) {
            text.append((char) sign);
        }
        return text.toString();
    }

    /** What is printed by main() with this BODY, once all processes have stopped. */
    static void prints(String body, String due) {
        House made = of("main() -> " + body + ".");
        made.house.begin(0);
        made.settle();
        due(body, made.output(), due);
    }

    /** The value of an E. */
    static void value(String expression, String due) {
        prints("print(" + expression + ")", due);
    }

    /** The REASON with which main() ENDS. */
    static void ends(String body, String due) {
        House made = of("main() -> " + body + ".");
        made.house.begin(0);
        made.settle();
        due(body, made.reason(0), due);
    }

    /** What a call throws: its class's plain name, or "nothing". */
    String thrownByBegin(int f) {
        try {
            house.begin(f);
        } catch (IllegalStateException | NoSuchElementException | IllegalArgumentException thrown) {
            return thrown.getClass().getSimpleName();
        }
        return "nothing";
    }

    String thrownByGo(int p, int n) {
        try {
            house.go(p, n);
        } catch (IllegalStateException | NoSuchElementException | IllegalArgumentException thrown) {
            return thrown.getClass().getSimpleName();
        }
        return "nothing";
    }

    String thrownByClock(int t) {
        try {
            house.clock(t);
        } catch (IllegalStateException | IllegalArgumentException thrown) {
            return thrown.getClass().getSimpleName();
        }
        return "nothing";
    }

    String thrownBySend(int p, int sort, int v) {
        try {
            house.send(p, sort, v);
        } catch (NoSuchElementException | IllegalArgumentException thrown) {
            return thrown.getClass().getSimpleName();
        }
        return "nothing";
    }

    /** The words of the document that the next answers are looked at for; they are told with what is not as due. */
    static void says(String words) {
        sentence = words + "\n  ";
    }

    static void due(String what, long got, long due) {
        looked++;
        if (got != due) {
            notAsDue(what, Long.toString(got), Long.toString(due));
        }
    }

    static void due(String what, String got, String due) {
        looked++;
        if (got == null ? due != null : !got.equals(due)) {
            notAsDue(what, got, due);
        }
    }

    private static void notAsDue(String what, String got, String due) {
        wrong++;
        System.out.println(sentence + brief(what) + ": " + got + ", due is " + due);
    }

    private static String brief(String what) {
        return what.length() > 200 ? what.substring(0, 200) + " .." : what;
    }

    /** The last call of every test. */
    static void close() {
        System.out.println(looked + " answers looked at, " + wrong + " not as due");
        if (wrong != 0) {
            System.exit(1);
        }
    }
}
