import java.util.Arrays;
import java.util.NoSuchElementException;

/**
 * Processes that share nothing, and a language of functions, patterns and messages for them.
 *
 * A text goes through Tokens, Parser (which makes a Tree) and Compiler (which looks at the rules and
 * writes Code); a Machine then lets one Process of the World go on at a time. All rows are made once and
 * used again by every later text and run.
 */
public final class MailHouse {
    public static final int NONE = -1;

    private static final int TAPE = 4000;
    private static final int MOST_FUNCTIONS = 60;
    private static final int MOST_ATOMS = 200;
    private static final int MOST_NAMES = 40;
    private static final int MOST_TOKENS = 1500;
    private static final int MOST_CALLS = 500;
    private static final int MOST_TIME = 1000000000;
    private static final int MOST_SIGNS = 100;
    private static final int MOST_LINES = 200;
    private static final int MOST_PROCESSES = 24;
    private static final int MOST_MESSAGES = 30;
    private static final int MOST_WATCHES = 200;
    private static final int MOST_FRAMES = 60;
    private static final int CELLS = 500;
    private static final int LATEST = 2147483647;
    /** Far above what any loop needs for which the document tells no bound. */
    private static final int MANY = 1000000000;

    private static final String FIRST_ATOMS = "true false ok none normal kill killed error exit down infinity badarg badarith badmatch function_clause case_clause if_clause badfun badarity nocatch heap stack ";
    private static final int TRUE = 0;
    private static final int FALSE = 1;
    private static final int OK = 2;
    private static final int NOBODY = 3;
    private static final int NORMAL = 4;
    private static final int KILL = 5;
    private static final int KILLED = 6;
    private static final int ERROR = 7;
    private static final int EXIT = 8;
    private static final int DOWN = 9;
    private static final int INFINITY = 10;
    private static final int BADARG = 11;
    private static final int BADARITH = 12;
    private static final int BADMATCH = 13;
    private static final int FUNCTION_CLAUSE = 14;
    private static final int CASE_CLAUSE = 15;
    private static final int IF_CLAUSE = 16;
    private static final int BADFUN = 17;
    private static final int BADARITY = 18;
    private static final int NOCATCH = 19;
    private static final int HEAP = 20;
    private static final int STACK = 21;
    private static final int ATOMS_AT_FIRST = 22;

    private static final String PREDEFINED = "self spawn link unlink watch unwatch trap exit throw error print ref name unname named alive now is_number is_atom is_list is_tuple is_fun is_process is_ref hd tl length element size ";
    private static final int[] TAKEN = {0, 1, 1, 1, 1, 1, 1, 1, 1, 1, 1, 0, 2, 1, 1, 1, 0, 1, 1, 1, 1, 1, 1, 1, 1, 1, 1, 2, 1};
    private static final int SELF = 0;
    private static final int SPAWN = 1;
    private static final int LINK = 2;
    private static final int UNLINK = 3;
    private static final int WATCH = 4;
    private static final int UNWATCH = 5;
    private static final int TRAP = 6;
    private static final int EXIT_SELF = 7;
    private static final int THROW = 8;
    private static final int TELL_ERROR = 9;
    private static final int PRINT = 10;
    private static final int REF = 11;
    private static final int NAME = 12;
    private static final int UNNAME = 13;
    private static final int NAMED = 14;
    private static final int ALIVE = 15;
    private static final int NOW = 16;
    private static final int IS_NUMBER = 17;
    private static final int IS_ATOM = 18;
    private static final int IS_LIST = 19;
    private static final int IS_TUPLE = 20;
    private static final int IS_FUN = 21;
    private static final int IS_PROCESS = 22;
    private static final int IS_REF = 23;
    private static final int HD = 24;
    private static final int TL = 25;
    private static final int LENGTH = 26;
    private static final int ELEMENT = 27;
    private static final int SIZE = 28;
    /** exit with two ARGUMENTS; the other one of that name stands above. */
    private static final int EXIT_OTHER = 29;

    private final Words atoms;
    private final Tokens tokens;
    private final Code code;
    private final Parser parser;
    private final Compiler compiler;
    private final Terms terms;
    private final World world;
    private final Machine machine;
    private final byte[] shownSigns;
    private int shownLength;
    private boolean programmed;

    public MailHouse() {
        atoms = new Words(TAPE / 2 + 100, TAPE + 300, FIRST_ATOMS);
        tokens = new Tokens(atoms);
        Tree tree = new Tree();
        code = new Code();
        parser = new Parser(tokens, tree, code);
        compiler = new Compiler(tokens, tree, code, atoms);
        terms = new Terms(atoms);
        world = new World(terms);
        machine = new Machine(code, world, terms);
        shownSigns = new byte[MOST_SIGNS];
    }

    public int feed(int a, int b, int c, int d, int e) {
        if (tokens.size + 20 > TAPE) {
            return NONE;
        }
        tokens.append(a);
        tokens.append(b);
        tokens.append(c);
        tokens.append(d);
        tokens.append(e);
        return tokens.size;
    }

    public int back(int n) {
        if (n < 0 || n > tokens.size) {
            return NONE;
        }
        tokens.size -= n;
        return tokens.size;
    }

    public int read() {
        tokens.scanAll();
        int fault = parser.parse();
        if (fault == 0) {
            fault = compiler.compile();
        }
        tokens.size = 0;
        programmed = fault == 0;
        world.clearAll();
        return fault;
    }

    public int count(int what) {
        switch (what) {
            case 0:
                return programmed ? tokens.count : 0;
            case 1:
                return programmed ? code.functions : 0;
            case 2:
                return programmed ? atoms.count : 0;
            case 3:
                return tokens.size;
            case 4:
                return world.count;
            case 5:
                return world.lines;
            case 6:
                return world.calls;
            case 7:
                return world.time;
            case 8:
                return world.references;
            default:
                return NONE;
        }
    }

    public int function(int f, int what) {
        if (!isFunction(f)) {
            return NONE;
        }
        switch (what) {
            case 0:
                return code.atom[f];
            case 1:
                return code.arity[f];
            case 2:
                return code.clauses[f];
            case 3:
                return code.line[f];
            default:
                return NONE;
        }
    }

    private boolean isFunction(int f) {
        return programmed && f >= 0 && f < code.functions;
    }

    public int letter(int a, int k) {
        if (!programmed) {
            return NONE;
        }
        return atoms.sign(a, k);
    }

    public void begin(int f) throws IllegalStateException, NoSuchElementException, IllegalArgumentException {
        if (!programmed) {
            throw new IllegalStateException("there is no program");
        }
        if (!isFunction(f)) {
            throw new NoSuchElementException("no such function");
        }
        if (code.arity[f] != 0) {
            throw new IllegalArgumentException("the function has patterns");
        }
        world.clearAll();
        world.begun = true;
        Process first = world.born();
        if (first != null) {
            first.frames.open(f, code.entry[f], 0);
        }
    }

    public int go(int p, int n) throws IllegalArgumentException, NoSuchElementException, IllegalStateException {
        if (n < 0 || n > MOST_CALLS) {
            throw new IllegalArgumentException("not so many calls");
        }
        Process one = world.find(p);
        if (one == null) {
            throw new NoSuchElementException("no such process");
        }
        if (one.state == Process.ENDED || one.state == Process.WAITS && !world.isReady(one)) {
            throw new IllegalStateException("it cannot go on");
        }
        return machine.goOn(one, n);
    }

    public int clock(int t) throws IllegalArgumentException, IllegalStateException {
        if (t < 0 || t > MOST_TIME || t > MOST_TIME - world.time) {
            throw new IllegalArgumentException("no such time");
        }
        if (!world.begun) {
            throw new IllegalStateException("no run has begun");
        }
        world.time += t;
        return world.time;
    }

    public void send(int p, int sort, int v) throws NoSuchElementException, IllegalArgumentException {
        Process to = world.find(p);
        if (to == null || sort == 1 && (v < 0 || v >= atoms.count)) {
            throw new NoSuchElementException("no such process or atom");
        }
        if (sort < 0 || sort > 2) {
            throw new IllegalArgumentException("no such sort");
        }
        if (sort == 2) {
            world.postPair(to, v);
        } else {
            int tag = sort == 0 ? Terms.NUMBER : Terms.ATOM;
            world.post(to, World.PLAIN, 0, 0, Terms.make(tag, v), null);
        }
        world.settle();
    }

    public int process(int p, int what) {
        Process one = world.find(p);
        if (one == null) {
            return NONE;
        }
        boolean ended = one.state == Process.ENDED;
        switch (what) {
            case 0:
                return one.state == Process.WAITS && world.isReady(one) ? 2 : one.state;
            case 1:
                return ended ? 0 : one.frames.count;
            case 2:
                return ended ? 0 : one.used;
            case 3:
                return one.clearings;
            case 4:
                return ended ? 0 : one.boxed;
            case 5:
                return ended ? 0 : one.linked;
            case 6:
                return ended ? 0 : world.watchesOf(p);
            case 7:
                return !ended && one.traps ? 1 : 0;
            case 8:
                return ended ? NONE : one.name;
            case 9:
                return one.calls;
            case 10:
                return ended ? NONE : one.wakes();
            case 11:
                return ended ? 0 : one.frames.callLine;
            default:
                return NONE;
        }
    }

    public int frame(int p, int i, int what) {
        Process one = world.find(p);
        if (one == null || one.state == Process.ENDED || i < 0 || i >= one.frames.count) {
            return NONE;
        }
        int row = one.frames.count - 1 - i;
        switch (what) {
            case 0:
                return one.frames.of(row, Frames.FUNCTION);
            case 1:
                return one.frames.of(row, Frames.LINE);
            case 2:
                return one.frames.namesIn(row);
            case 3:
                return one.frames.waitsIn(row);
            default:
                return NONE;
        }
    }

    public int link(int p, int i) {
        Process one = world.find(p);
        if (one == null || one.state == Process.ENDED || i < 0 || i >= one.linked) {
            return NONE;
        }
        return one.links[i];
    }

    public int show(int p, int what, int i) {
        Process one = world.find(p);
        if (one == null || i < 0) {
            return NONE;
        }
        if (what == 3) {
            if (one.state != Process.ENDED || i != 0) {
                return NONE;
            }
            shownLength = terms.text(one.home.cells, one.reason, shownSigns, 0);
            return shownLength;
        }
        if (what < 0 || what > 2 || one.state == Process.ENDED) {
            return NONE;
        }
        Frames frames = one.frames;
        int top = frames.count - 1;
        int most = what == 0 ? one.boxed : what == 1 ? frames.namesIn(top) : frames.waitsIn(top);
        if (i >= most) {
            return NONE;
        }
        long term = what == 0 ? one.box[i]
                : what == 1 ? frames.terms[frames.of(top, Frames.NAMES) + i]
                : frames.waits[frames.of(top, Frames.WAITS) + i];
        shownLength = terms.text(one.cells, term, shownSigns, 0);
        return shownLength;
    }

    public int shown(int k) {
        if (k < 0 || k >= shownLength) {
            return NONE;
        }
        return shownSigns[k];
    }

    public int printed(int i, int k) {
        if (i < 0 || i >= world.lines || k < 0 || k >= world.lengths[i]) {
            return NONE;
        }
        return world.output[i * MOST_SIGNS + k];
    }

    /** A row of short texts, numbered as they come. */
    private static final class Words {
        private final byte[] signs;
        private final int[] from;
        int count;

        /** The first words stand in one text, each with a blank behind it. */
        Words(int most, int room, String first) {
            signs = new byte[room];
            from = new int[most + 1];
            int fill = 0;
            int n = 0;
            for (int i = 0; i < first.length() && fill < room && n < most; i++) {
                if (first.charAt(i) == ' ') {
                    n++;
                    from[n] = fill;
                } else {
                    signs[fill] = (byte) first.charAt(i);
                    fill++;
                }
            }
            count = n;
        }

        /** The word that is text[at .. at + length - 1], or NONE. */
        int seek(byte[] text, int at, int length) {
            for (int w = 0; w < count; w++) {
                if (from[w + 1] - from[w] == length && isSame(w, text, at)) {
                    return w;
                }
            }
            return NONE;
        }

        private boolean isSame(int w, byte[] text, int at) {
            int start = from[w];
            for (int i = start; i < from[w + 1]; i++) {
                if (signs[i] != text[at + i - start]) {
                    return false;
                }
            }
            return true;
        }

        /** As seek; but a word that is new comes behind the others. */
        int find(byte[] text, int at, int length) {
            int w = seek(text, at, length);
            if (w != NONE) {
                return w;
            }
            if (count + 1 >= from.length || from[count] + length > signs.length) {
                return 0;
            }
            System.arraycopy(text, at, signs, from[count], length);
            from[count + 1] = from[count] + length;
            count++;
            return count - 1;
        }

        int sign(int w, int k) {
            if (w < 0 || w >= count || k < 0 || k >= from[w + 1] - from[w]) {
                return NONE;
            }
            return signs[from[w] + k];
        }

        int length(int w) {
            return w < 0 || w >= count ? 0 : from[w + 1] - from[w];
        }

        /** What a word is among others, when its own signs are those of word w here. */
        int seekIn(Words others, int w) {
            return w < 0 || w >= count ? NONE : others.seek(signs, from[w], from[w + 1] - from[w]);
        }

        /** Below 0, 0 or above 0, by their signs; they are words of this row. */
        int order(int v, int w) {
            int length = from[v + 1] - from[v];
            int other = from[w + 1] - from[w];
            for (int i = 0; i < length && i < other; i++) {
                int difference = signs[from[v] + i] - signs[from[w] + i];
                if (difference != 0) {
                    return difference;
                }
            }
            return length - other;
        }
    }

    /** The tape, and the tokens that stand on it. */
    private static final class Tokens {
        static final int END = 0;
        static final int NUMBER = 1;
        static final int ATOM = 2;
        static final int NAME = 3;
        static final int STRING = 4;
        static final int AFTER = 5;
        static final int ANDALSO = 6;
        static final int BEGIN = 7;
        static final int CASE = 8;
        static final int CATCH = 9;
        static final int DIV = 10;
        static final int CLOSING = 11;
        static final int FUN = 12;
        static final int IF = 13;
        static final int NOT = 14;
        static final int OF = 15;
        static final int ORELSE = 16;
        static final int RECEIVE = 17;
        static final int REM = 18;
        static final int WHEN = 19;
        static final int LEFT = 20;
        static final int RIGHT = 21;
        static final int LEFT_BRACE = 22;
        static final int RIGHT_BRACE = 23;
        static final int LEFT_SQUARE = 24;
        static final int RIGHT_SQUARE = 25;
        static final int COMMA = 26;
        static final int SEMICOLON = 27;
        static final int DOT = 28;
        static final int BAR = 29;
        static final int EQUALS = 30;
        static final int LESS = 31;
        static final int GREATER = 32;
        static final int PLUS = 33;
        static final int MINUS = 34;
        static final int TIMES = 35;
        static final int BANG = 36;
        static final int SLASH = 37;
        static final int ARROW = 38;
        static final int SAME = 39;
        static final int OTHER = 40;
        static final int AT_MOST = 41;
        static final int AT_LEAST = 42;
        static final int JOIN = 43;
        static final int WITHOUT = 44;
        /** No token begins so, or it is too long or great, or has no end. */
        static final int BAD = 45;

        private static final String WORDS = "after andalso begin case catch div end fun if not of orelse receive rem when ";
        private static final String ONE_SIGN = "(){}[],;.|=<>+-*!/";
        private static final String TWO_SIGNS = "->==/==<>=++--";
        private static final int LONGEST = 16;
        private static final int LONGEST_STRING = 40;

        final byte[] tape = new byte[TAPE];
        int size;
        final int[] kind = new int[TAPE + 2];
        /** A number, the number of an ATOM or NAME, or where on the tape the signs of a STRING begin. */
        final int[] value = new int[TAPE + 2];
        final int[] line = new int[TAPE + 2];
        /** Without the end. */
        int count;
        private final Words words = new Words(20, 100, WORDS);
        private final Words atoms;
        private final Words names = new Words(TAPE / 2 + 100, TAPE + 300, "_ ");
        private int at;
        private int lineNow;

        Tokens(Words atoms) {
            this.atoms = atoms;
        }

        void append(int bytes) {
            for (int shift = 24; shift >= 0 && size < TAPE; shift -= 8) {
                tape[size] = (byte) (bytes >> shift);
                size++;
            }
        }

        /** The sign at a place of the tape, or NONE behind its end. */
        int signAt(int place) {
            return place < 0 || place >= size ? NONE : tape[place] & 255;
        }

        /** Reads all tokens; what is behind a bad one is never asked for. */
        void scanAll() {
            atoms.count = ATOMS_AT_FIRST;
            names.count = 1;
            at = 0;
            lineNow = 1;
            count = 0;
            for (int n = 0; n <= TAPE; n++) {
                skip();
                line[count] = lineNow;
                value[count] = 0;
                kind[count] = scan();
                if (kind[count] == END || kind[count] == BAD) {
                    return;
                }
                count++;
            }
        }

        private void skip() {
            boolean comment = false;
            for (; at < size; at++) {
                int sign = tape[at];
                comment = sign != 10 && (comment || sign == '%');
                if (!comment && sign != 9 && sign != 10 && sign != 32) {
                    return;
                }
                lineNow += sign == 10 ? 1 : 0;
            }
        }

        /** The kind of the token that begins here; its value comes into its row. */
        private int scan() {
            int sign = signAt(at);
            if (sign == NONE) {
                return END;
            }
            if (isWordly(sign)) {
                return isDigit(sign) ? number() : word(sign);
            }
            return sign == '"' ? string() : signs(sign);
        }

        private static boolean isDigit(int sign) {
            return sign >= '0' && sign <= '9';
        }

        private static boolean isWordly(int sign) {
            return isDigit(sign) || sign >= 'a' && sign <= 'z' || sign >= 'A' && sign <= 'Z' || sign == '_';
        }

        private int number() {
            long sum = 0;
            for (; at < size && isDigit(tape[at]); at++) {
                sum = Math.min(sum * 10 + tape[at] - '0', LATEST + 1L);
            }
            value[count] = (int) sum;
            return sum > LATEST || isWordly(signAt(at)) ? BAD : NUMBER;
        }

        private int word(int first) {
            int start = at;
            while (at < size && isWordly(tape[at])) {
                at++;
            }
            int length = at - start;
            if (length > LONGEST) {
                return BAD;
            }
            // Great letters and _ stand ahead of the small ones.
            if (first < 'a') {
                value[count] = names.find(tape, start, length);
                return NAME;
            }
            int reserved = words.seek(tape, start, length);
            if (reserved != NONE) {
                return AFTER + reserved;
            }
            value[count] = atoms.find(tape, start, length);
            return ATOM;
        }

        private int string() {
            at++;
            value[count] = at;
            for (int n = 0; n <= LONGEST_STRING; n++) {
                int sign = signAt(at);
                at++;
                if (sign == '"') {
                    return STRING;
                }
                if (sign < 32 || sign > 126) {
                    return BAD;
                }
            }
            return BAD;
        }

        private int signs(int first) {
            int second = signAt(at + 1);
            for (int i = 0; i + 1 < TWO_SIGNS.length(); i += 2) {
                if (TWO_SIGNS.charAt(i) == first && TWO_SIGNS.charAt(i + 1) == second) {
                    at += 2;
                    return ARROW + i / 2;
                }
            }
            at++;
            for (int i = 0; i < ONE_SIGN.length(); i++) {
                if (ONE_SIGN.charAt(i) == first) {
                    return LEFT + i;
                }
            }
            return BAD;
        }
    }

    /** The tree of a text: nodes by number, 0 being none; those of one row are chained by next. */
    private static final class Tree {
        static final int NUMBER = 1;
        static final int ATOM = 2;
        static final int NAME = 3;
        /** a: where its signs begin on the tape. */
        static final int STRING = 4;
        /** a: what stands in ( ). */
        static final int GROUP = 5;
        /** a: the first part, b: how many. */
        static final int TUPLE = 6;
        /** a: the first part, b: how many, c: what stands behind the bar. */
        static final int LIST = 7;
        /** a: the first of its BODY. */
        static final int BLOCK = 8;
        /** a: what is tried, b: the first PART. */
        static final int CASE = 9;
        /** b: the first PART. */
        static final int IF = 10;
        /** a: the time, b: the first PART, c: the first of the BODY of after. */
        static final int RECEIVE = 11;
        /** a: its place, b: its PART, c: its last token. */
        static final int FUN = 12;
        /** a: the ATOM, b: the number. */
        static final int FUN_OF = 13;
        /** a: the ATOM, b: the first ARGUMENT, c: how many. */
        static final int CALL = 14;
        /** a: the PRIMARY, b: the first ARGUMENTS. */
        static final int APPLIED = 15;
        /** a: the first one, b: how many. */
        static final int ARGUMENTS = 16;
        static final int NEGATIVE = 17;
        static final int NOT = 18;
        static final int CATCH = 19;
        /** a: what stands ahead of the sign, b: what is behind it. */
        static final int MATCH = 20;
        static final int SEND = 21;
        /** a: the first of units and signs, a sign behind what it joins, so that long rows need no depth. */
        static final int SIGNS = 22;
        /** a: its kind of token. */
        static final int SIGN = 23;
        /** Stands between both ways of andalso and orelse; the SIGN follows the second one. */
        static final int HINGE = 24;
        /** a: the first P, b: the first of the GUARD, c: the first of the BODY. */
        static final int PART = 25;

        private static final int MOST = 2 * TAPE + 16;

        final int[] kind = new int[MOST];
        final int[] token = new int[MOST];
        final int[] a = new int[MOST];
        final int[] b = new int[MOST];
        final int[] c = new int[MOST];
        final int[] next = new int[MOST];
        private int count;

        void clear() {
            count = 0;
        }

        int add(int sort, int at, int first, int second, int third) {
            if (count + 1 >= MOST) {
                return 0;
            }
            count++;
            kind[count] = sort;
            token[count] = at;
            a[count] = first;
            b[count] = second;
            c[count] = third;
            next[count] = 0;
            return count;
        }

        int length(int first) {
            int n = 0;
            for (int node = first; node != 0; node = next[node]) {
                n++;
            }
            return n;
        }

        /** Whether what was read as an E may stand ahead of = ; the text's limit keeps the depth low. */
        boolean isPattern(int node) {
            switch (kind[node]) {
                case NUMBER:
                case ATOM:
                case NAME:
                case STRING:
                    return true;
                case NEGATIVE:
                    return kind[a[node]] == NUMBER;
                case GROUP:
                    return isPattern(a[node]);
                case TUPLE:
                case LIST:
                    for (int part = a[node]; part != 0; part = next[part]) {
                        if (!isPattern(part)) {
                            return false;
                        }
                    }
                    return kind[node] == TUPLE || c[node] == 0 || isPattern(c[node]);
                default:
                    return false;
            }
        }
    }

    /** Makes the tree of a text, and tells the first token that can't stand where it does. */
    private static final class Parser {
        private static final int DEEPEST = 25;
        private static final int MOST_ARGUMENTS = 6;
        private static final int MOST_PARTS = 8;
        private static final int COMPARES = 3;
        private static final int JOINS = 4;

        private final Tokens tokens;
        private final Tree tree;
        private final Code code;
        /** The tokens of signs whose second way is not read yet, of all open E's. */
        private final int[] signs = new int[TAPE + 2];
        private int signTop;
        private int at;
        /** E's, P's and BODIES that are open. */
        private int open;
        private int fault;

        Parser(Tokens tokens, Tree tree, Code code) {
            this.tokens = tokens;
            this.tree = tree;
            this.code = code;
        }

        /** 0, or the fault and 16 times its line. */
        int parse() {
            tree.clear();
            code.clear();
            signTop = 0;
            at = 0;
            open = 0;
            fault = 0;
            try {
                for (int n = 0; n <= TAPE && (n == 0 || look() != Tokens.END); n++) {
                    oneFunction();
                }
            } catch (UnsupportedOperationException stopped) {
                return fault;
            }
            return 0;
        }

        private void refuse(int number) {
            fault = number + 16 * tokens.line[at];
            throw new UnsupportedOperationException("a fault of the text");
        }

        private int look() {
            if (tokens.kind[at] == Tokens.BAD) {
                refuse(1);
            }
            return tokens.kind[at];
        }

        /** Goes past a token of that kind; where it stands. */
        private int need(int kind) {
            if (look() != kind) {
                refuse(2);
            }
            at++;
            return at - 1;
        }

        /** An E, P or BODY opens at this token. */
        private void opens(boolean stands) {
            if (!stands) {
                refuse(2);
            }
            if (open >= DEEPEST) {
                refuse(3);
            }
            open++;
        }

        private void oneFunction() {
            int token = at;
            int first = clause();
            int last = first;
            for (int n = 0; n < TAPE && look() == Tokens.SEMICOLON; n++) {
                at++;
                last = chain(last, clause());
            }
            need(Tokens.DOT);
            code.addFunction(tokens.value[token], tree.length(tree.a[first]), tokens.line[token], first, tree.length(first));
        }

        private int chain(int last, int node) {
            tree.next[last] = node;
            return node;
        }

        private int clause() {
            int token = need(Tokens.ATOM);
            need(Tokens.LEFT);
            int patterns = rowUpTo(true, MOST_ARGUMENTS, Tokens.RIGHT);
            return part(token, patterns);
        }

        /** What follows the patterns of a CLAUSE, fun or CASE. */
        private int part(int token, int patterns) {
            int guard = 0;
            if (look() == Tokens.WHEN) {
                at++;
                guard = row(false, TAPE);
            }
            need(Tokens.ARROW);
            return tree.add(Tree.PART, token, patterns, guard, body());
        }

        private int body() {
            opens(beginsUnit(look()) || look() == Tokens.CATCH);
            int first = row(false, TAPE);
            open--;
            return first;
        }

        /** P's or E's with commas between, so many at most; the node of the first one. */
        private int row(boolean patterns, int most) {
            int first = patterns ? pattern() : expression(true);
            int last = first;
            for (int n = 1; n < most && look() == Tokens.COMMA; n++) {
                at++;
                last = chain(last, patterns ? pattern() : expression(true));
            }
            return first;
        }

        /** Such a row, or none, and the sign that closes it. */
        private int rowUpTo(boolean patterns, int most, int close) {
            int first = look() == close ? 0 : row(patterns, most);
            need(close);
            return first;
        }

        private static boolean beginsUnit(int kind) {
            switch (kind) {
                case Tokens.NUMBER:
                case Tokens.ATOM:
                case Tokens.NAME:
                case Tokens.STRING:
                case Tokens.BEGIN:
                case Tokens.CASE:
                case Tokens.FUN:
                case Tokens.IF:
                case Tokens.NOT:
                case Tokens.RECEIVE:
                case Tokens.LEFT:
                case Tokens.LEFT_BRACE:
                case Tokens.LEFT_SQUARE:
                case Tokens.MINUS:
                    return true;
                default:
                    return false;
            }
        }

        private static boolean beginsPattern(int kind) {
            switch (kind) {
                case Tokens.NUMBER:
                case Tokens.ATOM:
                case Tokens.NAME:
                case Tokens.STRING:
                case Tokens.LEFT:
                case Tokens.LEFT_BRACE:
                case Tokens.LEFT_SQUARE:
                case Tokens.MINUS:
                    return true;
                default:
                    return false;
            }
        }

        /** An E; what is behind = or ! is one that can't be a catch. */
        private int expression(boolean catches) {
            int kind = look();
            opens(beginsUnit(kind) || catches && kind == Tokens.CATCH);
            int token = at;
            int node;
            if (kind == Tokens.CATCH) {
                at++;
                node = tree.add(Tree.CATCH, token, expression(true), 0, 0);
            } else {
                node = matched(signed());
            }
            open--;
            return node;
        }

        private int matched(int node) {
            int kind = look();
            if (kind != Tokens.EQUALS && kind != Tokens.BANG) {
                return node;
            }
            if (kind == Tokens.EQUALS && !tree.isPattern(node)) {
                refuse(2);
            }
            int token = at;
            at++;
            int sort = kind == Tokens.EQUALS ? Tree.MATCH : Tree.SEND;
            return tree.add(sort, token, node, expression(false), 0);
        }

        /** How tightly a sign between units binds; 0: it is none. */
        private static int rank(int kind) {
            switch (kind) {
                case Tokens.ORELSE:
                    return 1;
                case Tokens.ANDALSO:
                    return 2;
                case Tokens.SAME:
                case Tokens.OTHER:
                case Tokens.LESS:
                case Tokens.AT_MOST:
                case Tokens.GREATER:
                case Tokens.AT_LEAST:
                    return COMPARES;
                case Tokens.JOIN:
                case Tokens.WITHOUT:
                    return JOINS;
                case Tokens.PLUS:
                case Tokens.MINUS:
                    return 5;
                case Tokens.TIMES:
                case Tokens.DIV:
                case Tokens.REM:
                    return 6;
                default:
                    return 0;
            }
        }

        /** Units with signs between. */
        private int signed() {
            int token = at;
            int base = signTop;
            int first = unit();
            int last = first;
            boolean alone = true;
            for (int n = 0; n < TAPE && rank(look()) > 0; n++) {
                alone = false;
                int kind = look();
                last = closeSigns(base, rank(kind), last);
                signs[signTop] = at;
                signTop++;
                if (kind == Tokens.ANDALSO || kind == Tokens.ORELSE) {
                    last = chain(last, tree.add(Tree.HINGE, at, kind, 0, 0));
                }
                at++;
                last = chain(last, unit());
            }
            if (alone) {
                return first;
            }
            closeSigns(base, 0, last);
            return tree.add(Tree.SIGNS, token, first, 0, 0);
        }

        /** Puts the signs that bind their second way ahead of a sign of that rank behind it; the last node then. */
        private int closeSigns(int base, int rank, int lastNode) {
            int last = lastNode;
            for (; signTop > base; signTop--) {
                int token = signs[signTop - 1];
                int kind = tokens.kind[token];
                int over = rank(kind);
                if (over < rank || over == rank && rank == JOINS) {
                    return last;
                }
                if (over == rank && rank == COMPARES) {
                    refuse(2);
                }
                last = chain(last, tree.add(Tree.SIGN, token, kind, 0, 0));
            }
            return last;
        }

        private int unit() {
            int kind = look();
            if (kind != Tokens.MINUS && kind != Tokens.NOT) {
                return applied(primary());
            }
            int token = at;
            at++;
            opens(beginsUnit(look()));
            int node = tree.add(kind == Tokens.MINUS ? Tree.NEGATIVE : Tree.NOT, token, unit(), 0, 0);
            open--;
            return node;
        }

        private int applied(int primary) {
            if (look() != Tokens.LEFT) {
                return primary;
            }
            int node = tree.add(Tree.APPLIED, tree.token[primary], primary, 0, 0);
            int last = 0;
            for (int n = 0; n < TAPE && look() == Tokens.LEFT; n++) {
                int token = at;
                at++;
                int first = rowUpTo(false, MOST_ARGUMENTS, Tokens.RIGHT);
                int more = tree.add(Tree.ARGUMENTS, token, first, tree.length(first), 0);
                if (last == 0) {
                    tree.b[node] = more;
                } else {
                    tree.next[last] = more;
                }
                last = more;
            }
            return node;
        }

        private int primary() {
            int token = at;
            switch (look()) {
                case Tokens.NUMBER:
                case Tokens.STRING:
                case Tokens.NAME:
                    return leaf();
                case Tokens.ATOM:
                    return atomOrCall();
                case Tokens.LEFT:
                    at++;
                    int inside = expression(true);
                    need(Tokens.RIGHT);
                    return tree.add(Tree.GROUP, token, inside, 0, 0);
                case Tokens.LEFT_BRACE:
                    return tuple(false);
                case Tokens.LEFT_SQUARE:
                    return list(false);
                case Tokens.BEGIN:
                    at++;
                    int block = body();
                    need(Tokens.CLOSING);
                    return tree.add(Tree.BLOCK, token, block, 0, 0);
                case Tokens.CASE:
                    return caseOf();
                case Tokens.IF:
                    at++;
                    int choices = parts(false);
                    need(Tokens.CLOSING);
                    return tree.add(Tree.IF, token, 0, choices, 0);
                case Tokens.RECEIVE:
                    return receive();
                case Tokens.FUN:
                    return fun();
                default:
                    refuse(2);
                    return 0;
            }
        }

        /** A number, ATOM, NAME or STRING, whose kinds of node are those of the tokens. */
        private int leaf() {
            int node = tree.add(tokens.kind[at], at, tokens.value[at], 0, 0);
            at++;
            return node;
        }

        private int atomOrCall() {
            int token = at;
            int node = leaf();
            if (look() != Tokens.LEFT) {
                return node;
            }
            at++;
            int first = rowUpTo(false, MOST_ARGUMENTS, Tokens.RIGHT);
            return tree.add(Tree.CALL, token, tokens.value[token], first, tree.length(first));
        }

        private int tuple(boolean patterns) {
            int token = at;
            at++;
            int first = rowUpTo(patterns, MOST_PARTS, Tokens.RIGHT_BRACE);
            return tree.add(Tree.TUPLE, token, first, tree.length(first), 0);
        }

        private int list(boolean patterns) {
            int token = at;
            at++;
            int first = look() == Tokens.RIGHT_SQUARE ? 0 : row(patterns, MOST_PARTS);
            int rest = 0;
            if (first != 0 && look() == Tokens.BAR) {
                at++;
                rest = patterns ? pattern() : expression(true);
            }
            need(Tokens.RIGHT_SQUARE);
            return tree.add(Tree.LIST, token, first, tree.length(first), rest);
        }

        private int caseOf() {
            int token = at;
            at++;
            int tried = expression(true);
            need(Tokens.OF);
            int cases = parts(true);
            need(Tokens.CLOSING);
            return tree.add(Tree.CASE, token, tried, cases, 0);
        }

        /** CASES or CHOICES. */
        private int parts(boolean cases) {
            int first = cases ? oneCase() : choice();
            int last = first;
            for (int n = 0; n < TAPE && look() == Tokens.SEMICOLON; n++) {
                at++;
                last = chain(last, cases ? oneCase() : choice());
            }
            return first;
        }

        private int oneCase() {
            int token = at;
            int tried = pattern();
            return part(token, tried);
        }

        private int choice() {
            int token = at;
            int guard = row(false, TAPE);
            need(Tokens.ARROW);
            return tree.add(Tree.PART, token, 0, guard, body());
        }

        private int receive() {
            int token = at;
            at++;
            int cases = look() == Tokens.AFTER ? 0 : parts(true);
            int time = 0;
            int late = 0;
            if (look() == Tokens.AFTER) {
                at++;
                time = expression(true);
                need(Tokens.ARROW);
                late = body();
            }
            need(Tokens.CLOSING);
            return tree.add(Tree.RECEIVE, token, time, cases, late);
        }

        private int fun() {
            int token = at;
            at++;
            if (look() == Tokens.ATOM) {
                int atom = at;
                at++;
                need(Tokens.SLASH);
                int number = need(Tokens.NUMBER);
                return tree.add(Tree.FUN_OF, token, tokens.value[atom], tokens.value[number], 0);
            }
            need(Tokens.LEFT);
            int place = code.addPlace();
            int patterns = rowUpTo(true, MOST_ARGUMENTS, Tokens.RIGHT);
            int part = part(token, patterns);
            int last = need(Tokens.CLOSING);
            return tree.add(Tree.FUN, token, place, part, last);
        }

        private int pattern() {
            int token = at;
            int kind = look();
            opens(beginsPattern(kind));
            int node;
            switch (kind) {
                case Tokens.LEFT:
                    at++;
                    node = tree.add(Tree.GROUP, token, pattern(), 0, 0);
                    need(Tokens.RIGHT);
                    break;
                case Tokens.LEFT_BRACE:
                    node = tuple(true);
                    break;
                case Tokens.LEFT_SQUARE:
                    node = list(true);
                    break;
                case Tokens.MINUS:
                    at++;
                    if (look() != Tokens.NUMBER) {
                        refuse(2);
                    }
                    node = tree.add(Tree.NEGATIVE, token, leaf(), 0, 0);
                    break;
                default:
                    node = leaf();
                    break;
            }
            open--;
            return node;
        }
    }

    /** What the machine runs: one row of numbers, and where in it FUNCTIONS and funs begin. */
    private static final class Code {
        /** tag, value: a term that needs no cells. */
        static final int TERM = 1;
        /** n, n signs. */
        static final int STRING = 2;
        /** name. */
        static final int NAME = 3;
        /** n. */
        static final int TUPLE = 4;
        /** n: so many parts and the rest wait. */
        static final int LIST = 5;
        /** place, n, n names that are held. */
        static final int FUN = 6;
        /** function. */
        static final int FUN_OF = 7;
        /** kind of token; the first one that works on what waits. */
        static final int COMPARE = 8;
        static final int ARITHMETIC = 9;
        static final int JOIN = 10;
        static final int NEGATE = 11;
        static final int NOT = 12;
        /** where to, if that is false (true). */
        static final int AND = 13;
        static final int OR = 14;
        static final int DROP = 15;
        /** n: so many names are not bound any more. */
        static final int FORGET = 16;
        static final int SEND = 17;
        /** The first one that says where it goes on. */
        static final int JUMP = 18;
        /** what is tried, where to if it does not fit, a pattern. */
        static final int FIT = 19;
        /** a pattern. */
        static final int MATCH = 20;
        /** n names that go, and where to, if it does not hold. */
        static final int GUARD = 21;
        static final int HOLDS = 22;
        static final int GUARDED = 23;
        /** how many ARGUMENTS are gone, its line. */
        static final int CHOSEN = 24;
        /** function, n, line. */
        static final int CALL = 25;
        static final int LAST_CALL = 26;
        /** n, line. */
        static final int APPLY = 27;
        static final int LAST_APPLY = 28;
        /** where to with what was caught. */
        static final int CATCH = 29;
        static final int CAUGHT = 30;
        /** 1: a time waits. */
        static final int AWAIT = 31;
        /** where to when the time has come. */
        static final int NEXT = 32;
        static final int TAKE = 33;
        /** where to. */
        static final int SKIP = 34;
        static final int RETURN = 35;
        static final int NO_CLAUSE = 36;
        static final int NO_CASE = 37;
        static final int NO_CHOICE = 38;
        /** id. */
        static final int PREDEFINED = 39;
        /** id: what is done to another process. */
        static final int TOWARD = 40;

        /** In patterns: tag, value. */
        static final int SAME_TERM = 1;
        static final int SAME_STRING = 2;
        static final int SAME_NAME = 3;
        static final int BIND = 4;
        static final int ANYTHING = 5;
        static final int PARTS = 6;
        static final int PAIR = 7;
        static final int FITS = 8;

        /** What FIT tries, if it is not so many ARGUMENTS. */
        static final int TOPMOST = -1;
        static final int MESSAGE = -2;

        /** FUNS of ATOMS have places behind all others. */
        static final int OF_FUNCTION = 1000000;

        private static final int MOST = 24000;
        private static final int MOST_PLACES = TAPE / 10;
        private static final int FUNCTIONS = TAPE / 6;

        final int[] row = new int[MOST];
        int size;
        int functions;
        final int[] atom = new int[FUNCTIONS];
        final int[] arity = new int[FUNCTIONS];
        final int[] line = new int[FUNCTIONS];
        final int[] first = new int[FUNCTIONS];
        final int[] clauses = new int[FUNCTIONS];
        final int[] entry = new int[FUNCTIONS];
        int places;
        final int[] placeArity = new int[MOST_PLACES];
        final int[] placeEntry = new int[MOST_PLACES];
        /** Where in the row the names stand that it holds, ahead of them how many. */
        final int[] placeHeld = new int[MOST_PLACES];

        void clear() {
            size = 1;
            functions = 0;
            places = 0;
        }

        void addFunction(int itsAtom, int itsArity, int itsLine, int firstClause, int howMany) {
            if (functions >= FUNCTIONS) {
                return;
            }
            atom[functions] = itsAtom;
            arity[functions] = itsArity;
            line[functions] = itsLine;
            first[functions] = firstClause;
            clauses[functions] = howMany;
            functions++;
        }

        int addPlace() {
            if (places >= MOST_PLACES) {
                return 0;
            }
            places++;
            return places - 1;
        }

        /** The first FUNCTION of that ATOM with so many PATTERNS, or NONE. */
        int seek(int itsAtom, int itsArity) {
            for (int f = 0; f < functions; f++) {
                if (atom[f] == itsAtom && arity[f] == itsArity) {
                    return f;
                }
            }
            return NONE;
        }

        /** Where a text is too long for the row it is refused for its tokens. */
        void put(int number) {
            if (size < MOST) {
                row[size] = number;
                size++;
            }
        }

        int at(int place) {
            return place < 0 || place >= MOST ? 0 : row[place];
        }

        void set(int place, int number) {
            if (place >= 0 && place < MOST) {
                row[place] = number;
            }
        }

        /** A place for an address that is not known yet, chained to those before; 0 is the chain's end. */
        int hook(int chain) {
            put(chain);
            return size - 1;
        }

        /** All of a chain go to what comes next. */
        void arrive(int chain) {
            int place = chain;
            for (int n = 0; n < MOST && place != 0; n++) {
                int before = at(place);
                set(place, size);
                place = before;
            }
        }

        int takes(int place) {
            int f = place - OF_FUNCTION;
            if (f >= 0) {
                return f < functions ? arity[f] : 0;
            }
            return place >= 0 && place < places ? placeArity[place] : 0;
        }
    }

    /** Walks the tree of a text: looks at the rules, and writes the code. */
    private static final class Compiler {
        private static final int NO_FAULT = MANY;
        private static final int MOST_LEVELS = 32;

        private final Tokens tokens;
        private final Tree tree;
        private final Code code;
        private final Words atoms;
        private final Words predefined = new Words(40, 300, PREDEFINED);
        /** The names that are bound here, those of a fun behind those around it. */
        private final int[] bound = new int[TAPE];
        private int top;
        /** A level for the FUNCTION and each fun that is open: where its names begin, and the most it had. */
        private final int[] base = new int[MOST_LEVELS];
        private final int[] most = new int[MOST_LEVELS];
        private int level;
        /** Of each NAME's token: the level at which it was bound ahead of it; MOST_LEVELS: at none. */
        private final int[] where = new int[TAPE + 2];
        private boolean crowded;
        private boolean inGuard;
        /** In the PATTERNS of a fun those of around are hidden. */
        private boolean anew;
        private int firstFault;

        Compiler(Tokens tokens, Tree tree, Code code, Words atoms) {
            this.tokens = tokens;
            this.tree = tree;
            this.code = code;
            this.atoms = atoms;
        }

        /** 0, or the fault of the rules and 16 times its line. */
        int compile() {
            firstFault = NO_FAULT;
            crowded = false;
            inGuard = false;
            anew = false;
            for (int f = 0; f < code.functions; f++) {
                oneFunction(f);
            }
            if (firstFault != NO_FAULT) {
                return firstFault % 16 + 16 * tokens.line[firstFault / 16];
            }
            boolean great = code.functions > MOST_FUNCTIONS || atoms.count > MOST_ATOMS || tokens.count > MOST_TOKENS;
            return great || crowded ? 8 : 0;
        }

        /** Of faults the one of the first token counts, of one token the least. */
        private void fault(int token, int number) {
            firstFault = Math.min(firstFault, token * 16 + number);
        }

        private void notInGuard(int token) {
            if (inGuard) {
                fault(token, 7);
            }
        }

        private void oneFunction(int f) {
            int token = tree.token[code.first[f]];
            if (code.seek(code.atom[f], code.arity[f]) != f || predefinedOf(code.atom[f], code.arity[f]) != NONE) {
                fault(token, 4);
            }
            level = 0;
            top = 0;
            base[0] = 0;
            most[0] = 0;
            code.entry[f] = code.size;
            for (int part = code.first[f]; part != 0; part = tree.next[part]) {
                int atom = tree.token[part];
                int count = tree.length(tree.a[part]);
                if (tokens.value[atom] != code.atom[f] || count != code.arity[f]) {
                    fault(atom, 4);
                }
                clause(part, count, tokens.line[atom]);
            }
            code.put(Code.NO_CLAUSE);
            crowded = crowded || most[0] > MOST_NAMES;
        }

        /** What is PREDEFINED of that ATOM with so many ARGUMENTS, or NONE. */
        private int predefinedOf(int atom, int count) {
            int id = atoms.seekIn(predefined, atom);
            if (id == EXIT_SELF && count == 2) {
                return EXIT_OTHER;
            }
            return id != NONE && id < TAKEN.length && TAKEN[id] == count ? id : NONE;
        }

        /** A CLAUSE of a FUNCTION or fun; where it does not fit it goes on behind it. */
        private void clause(int part, int count, int line) {
            int mark = top;
            int fails = tries(count, part);
            code.put(Code.CHOSEN);
            code.put(count);
            code.put(line);
            body(tree.c[part], true);
            code.put(Code.RETURN);
            top = mark;
            code.arrive(fails);
        }

        /** Tries a part's patterns and guard; the chain of those that go elsewhere. */
        private int tries(int what, int part) {
            int mark = top;
            int fails = 0;
            if (tree.a[part] != 0) {
                code.put(Code.FIT);
                code.put(what);
                fails = code.hook(0);
                anew = what >= 0;
                for (int node = tree.a[part]; node != 0; node = tree.next[node]) {
                    pattern(node);
                }
                anew = false;
                code.put(Code.FITS);
            }
            if (tree.b[part] == 0) {
                return fails;
            }
            boolean around = inGuard;
            inGuard = true;
            code.put(Code.GUARD);
            code.put(top - mark);
            fails = code.hook(fails);
            for (int node = tree.b[part]; node != 0; node = tree.next[node]) {
                expression(node, false);
                code.put(Code.HOLDS);
            }
            code.put(Code.GUARDED);
            inGuard = around;
            return fails;
        }

        private void pattern(int node) {
            switch (tree.kind[node]) {
                case Tree.GROUP:
                    pattern(tree.a[node]);
                    break;
                case Tree.NUMBER:
                    code.put(Code.SAME_TERM);
                    term(Terms.NUMBER, tree.a[node]);
                    break;
                case Tree.NEGATIVE:
                    code.put(Code.SAME_TERM);
                    term(Terms.NUMBER, -tree.a[tree.a[node]]);
                    break;
                case Tree.ATOM:
                    code.put(Code.SAME_TERM);
                    term(Terms.ATOM, tree.a[node]);
                    break;
                case Tree.STRING:
                    code.put(Code.SAME_STRING);
                    string(node);
                    break;
                case Tree.NAME:
                    nameInPattern(tree.a[node], tree.token[node]);
                    break;
                case Tree.TUPLE:
                    code.put(Code.PARTS);
                    code.put(tree.b[node]);
                    for (int part = tree.a[node]; part != 0; part = tree.next[part]) {
                        pattern(part);
                    }
                    break;
                default:
                    listPattern(node);
                    break;
            }
        }

        private void listPattern(int node) {
            for (int part = tree.a[node]; part != 0; part = tree.next[part]) {
                code.put(Code.PAIR);
                pattern(part);
            }
            if (tree.c[node] != 0) {
                pattern(tree.c[node]);
            } else {
                code.put(Code.SAME_TERM);
                term(Terms.NIL, 0);
            }
        }

        private void term(int tag, int value) {
            code.put(tag);
            code.put(value);
        }

        private void string(int node) {
            int from = tree.a[node];
            int length = 0;
            while (length < Tokens.LONGEST_STRING && tokens.signAt(from + length) != '"') {
                length++;
            }
            code.put(length);
            for (int i = 0; i < length; i++) {
                code.put(tokens.signAt(from + i));
            }
        }

        private void nameInPattern(int name, int token) {
            where[token] = MOST_LEVELS;
            if (name == 0) {
                code.put(Code.ANYTHING);
            } else if (isBound(name, token, anew ? base[level] : 0)) {
                code.put(Code.SAME_NAME);
                code.put(name);
            } else {
                code.put(Code.BIND);
                code.put(name);
                bind(name);
            }
        }

        private void bind(int name) {
            if (top < bound.length) {
                bound[top] = name;
                top++;
            }
            most[level] = Math.max(most[level], top - base[level]);
        }

        /** Whether a name is bound among those from a place on; notes the level at which it is. */
        private boolean isBound(int name, int token, int from) {
            for (int i = top - 1; i >= from; i--) {
                if (bound[i] == name) {
                    int at = level;
                    while (at > 0 && base[at] > i) {
                        at--;
                    }
                    where[token] = at;
                    return true;
                }
            }
            return false;
        }

        /** What was bound since then is not bound any more. */
        private void forget(int mark) {
            if (top > mark) {
                code.put(Code.FORGET);
                code.put(top - mark);
            }
            top = mark;
        }

        private void body(int first, boolean last) {
            for (int node = first; node != 0; node = tree.next[node]) {
                boolean more = tree.next[node] != 0;
                expression(node, last && !more);
                if (more) {
                    code.put(Code.DROP);
                }
            }
        }

        /** last: nothing of the FRAME is done behind this E. */
        private void expression(int node, boolean last) {
            int token = tree.token[node];
            switch (tree.kind[node]) {
                case Tree.NUMBER:
                    code.put(Code.TERM);
                    term(Terms.NUMBER, tree.a[node]);
                    break;
                case Tree.ATOM:
                    code.put(Code.TERM);
                    term(Terms.ATOM, tree.a[node]);
                    break;
                case Tree.STRING:
                    notInGuard(token);
                    code.put(Code.STRING);
                    string(node);
                    break;
                case Tree.NAME:
                    if (tree.a[node] == 0 || !isBound(tree.a[node], token, 0)) {
                        fault(token, 5);
                    }
                    code.put(Code.NAME);
                    code.put(tree.a[node]);
                    break;
                case Tree.GROUP:
                    expression(tree.a[node], last);
                    break;
                case Tree.TUPLE:
                    row(tree.a[node]);
                    code.put(Code.TUPLE);
                    code.put(tree.b[node]);
                    break;
                case Tree.LIST:
                    list(node);
                    break;
                case Tree.SIGNS:
                    signs(tree.a[node]);
                    break;
                case Tree.CALL:
                    call(node, last);
                    break;
                case Tree.APPLIED:
                    apply(node, last);
                    break;
                default:
                    compound(node, last);
                    break;
            }
        }

        private void compound(int node, boolean last) {
            int mark = top;
            if (tree.kind[node] == Tree.NEGATIVE || tree.kind[node] == Tree.NOT) {
                expression(tree.a[node], false);
                code.put(tree.kind[node] == Tree.NOT ? Code.NOT : Code.NEGATE);
                return;
            }
            notInGuard(tree.token[node]);
            switch (tree.kind[node]) {
                case Tree.BLOCK:
                    body(tree.a[node], last);
                    forget(mark);
                    break;
                case Tree.CASE:
                    expression(tree.a[node], false);
                    int cases = parts(tree.b[node], Code.TOPMOST, Code.DROP, last);
                    code.put(Code.NO_CASE);
                    code.arrive(cases);
                    break;
                case Tree.IF:
                    int choices = parts(tree.b[node], Code.TOPMOST, 0, last);
                    code.put(Code.NO_CHOICE);
                    code.arrive(choices);
                    break;
                case Tree.RECEIVE:
                    receive(node, last);
                    break;
                case Tree.FUN:
                    fun(node);
                    break;
                case Tree.FUN_OF:
                    funOf(node);
                    break;
                case Tree.CATCH:
                    code.put(Code.CATCH);
                    int caught = code.hook(0);
                    expression(tree.a[node], false);
                    code.put(Code.CAUGHT);
                    forget(mark);
                    code.arrive(caught);
                    break;
                case Tree.MATCH:
                    expression(tree.b[node], false);
                    code.put(Code.MATCH);
                    pattern(tree.a[node]);
                    code.put(Code.FITS);
                    break;
                case Tree.SEND:
                    expression(tree.a[node], false);
                    expression(tree.b[node], false);
                    code.put(Code.SEND);
                    break;
                default:
                    break;
            }
        }

        private void row(int first) {
            for (int node = first; node != 0; node = tree.next[node]) {
                expression(node, false);
            }
        }

        private void list(int node) {
            row(tree.a[node]);
            if (tree.c[node] != 0) {
                expression(tree.c[node], false);
            } else {
                code.put(Code.TERM);
                term(Terms.NIL, 0);
            }
            if (tree.b[node] > 0) {
                code.put(Code.LIST);
                code.put(tree.b[node]);
            }
        }

        /** CASES or CHOICES: the chain of those that go behind all of them. */
        private int parts(int first, int what, int taken, boolean last) {
            int ends = 0;
            for (int part = first; part != 0; part = tree.next[part]) {
                int mark = top;
                int fails = tries(what, part);
                if (taken != 0) {
                    code.put(taken);
                }
                body(tree.c[part], last);
                forget(mark);
                code.put(Code.JUMP);
                ends = code.hook(ends);
                code.arrive(fails);
            }
            return ends;
        }

        private void receive(int node, boolean last) {
            int mark = top;
            boolean timed = tree.a[node] != 0;
            if (timed) {
                expression(tree.a[node], false);
                forget(mark);
            }
            code.put(Code.AWAIT);
            code.put(timed ? 1 : 0);
            int scan = code.size;
            code.put(Code.NEXT);
            int late = code.hook(0);
            int ends = parts(tree.b[node], Code.MESSAGE, Code.TAKE, last);
            code.put(Code.SKIP);
            code.put(scan);
            code.arrive(late);
            if (timed) {
                body(tree.c[node], last);
                forget(mark);
            }
            code.arrive(ends);
        }

        private void fun(int node) {
            int place = tree.a[node];
            int part = tree.b[node];
            int count = tree.length(tree.a[part]);
            boolean around = inGuard;
            inGuard = false;
            code.put(Code.JUMP);
            int over = code.hook(0);
            code.placeArity[place] = count;
            code.placeEntry[place] = code.size;
            level = Math.min(level + 1, MOST_LEVELS - 1);
            base[level] = top;
            most[level] = 0;
            clause(part, count, tokens.line[tree.token[node]]);
            code.put(Code.NO_CLAUSE);
            int names = most[level];
            level--;
            inGuard = around;
            code.arrive(over);
            code.put(Code.FUN);
            code.put(place);
            code.placeHeld[place] = code.size;
            code.put(0);
            int held = hold(tree.token[node], tree.c[node]);
            code.set(code.placeHeld[place], held);
            crowded = crowded || names + held > MOST_NAMES;
        }

        /** Writes the names between two tokens of a fun that are bound around it, as they stand first. */
        private int hold(int from, int to) {
            int start = code.size;
            for (int token = from; token <= to; token++) {
                if (tokens.kind[token] == Tokens.NAME && where[token] <= level) {
                    int name = tokens.value[token];
                    int i = start;
                    while (i < code.size && code.at(i) != name) {
                        i++;
                    }
                    if (i == code.size) {
                        code.put(name);
                    }
                }
            }
            return code.size - start;
        }

        private void funOf(int node) {
            int f = code.seek(tree.a[node], tree.b[node]);
            if (f == NONE) {
                fault(tree.token[node] + 1, 6);
            }
            code.put(Code.FUN_OF);
            code.put(f);
        }

        /** Units and signs; what the second way of andalso or orelse binds is bound in it alone. */
        private void signs(int first) {
            int and = 0;
            int andMark = 0;
            int or = 0;
            int orMark = 0;
            for (int node = first; node != 0; node = tree.next[node]) {
                int kind = tree.kind[node];
                int sign = tree.a[node];
                if (kind == Tree.HINGE && sign == Tokens.ANDALSO) {
                    code.put(Code.AND);
                    and = code.hook(0);
                    andMark = top;
                } else if (kind == Tree.HINGE) {
                    code.put(Code.OR);
                    or = code.hook(0);
                    orMark = top;
                } else if (kind != Tree.SIGN) {
                    expression(node, false);
                } else if (sign == Tokens.ANDALSO) {
                    forget(andMark);
                    code.arrive(and);
                } else if (sign == Tokens.ORELSE) {
                    forget(orMark);
                    code.arrive(or);
                } else {
                    joining(sign, tree.token[node]);
                }
            }
        }

        private void joining(int sign, int token) {
            switch (sign) {
                case Tokens.JOIN:
                case Tokens.WITHOUT:
                    notInGuard(token);
                    code.put(Code.JOIN);
                    break;
                case Tokens.PLUS:
                case Tokens.MINUS:
                case Tokens.TIMES:
                case Tokens.DIV:
                case Tokens.REM:
                    code.put(Code.ARITHMETIC);
                    break;
                default:
                    code.put(Code.COMPARE);
                    break;
            }
            code.put(sign);
        }

        private void call(int node, boolean last) {
            int token = tree.token[node];
            int count = tree.c[node];
            int id = predefinedOf(tree.a[node], count);
            int f = code.seek(tree.a[node], count);
            if (id == NONE && f == NONE) {
                fault(token, 6);
            }
            if (id < IS_NUMBER || id > SIZE) {
                notInGuard(token);
            }
            row(tree.b[node]);
            if (id != NONE) {
                boolean toward = id == LINK || id == UNLINK || id == WATCH || id == EXIT_OTHER || id == ALIVE;
                code.put(toward ? Code.TOWARD : Code.PREDEFINED);
                code.put(id);
                return;
            }
            code.put(last ? Code.LAST_CALL : Code.CALL);
            code.put(f);
            code.put(count);
            code.put(tokens.line[token]);
        }

        private void apply(int node, boolean last) {
            int token = tree.token[node];
            notInGuard(token);
            expression(tree.a[node], false);
            for (int more = tree.b[node]; more != 0; more = tree.next[more]) {
                row(tree.a[more]);
                code.put(last && tree.next[more] == 0 ? Code.LAST_APPLY : Code.APPLY);
                code.put(tree.b[more]);
                code.put(tokens.line[token]);
            }
        }
    }

    /**
     * Terms: the tag above, the value below, which for PAIRS, TUPLES and FUNS is where their cells begin.
     * A PAIR's cells are its head and tail; a TUPLE has how many ahead of its parts; a FUN has its place
     * and how many it holds ahead of these.
     */
    private static final class Terms {
        /** Tags stand in the order of terms. */
        static final int NUMBER = 0;
        static final int ATOM = 1;
        static final int REFERENCE = 2;
        static final int FUN = 3;
        static final int PROCESS = 4;
        static final int TUPLE = 5;
        static final int NIL = 6;
        static final int PAIR = 7;
        /** Cells alone have these: how many or a place; where it is now, while a heap is cleared. */
        static final int HEAD = 8;
        static final int MOVED = 9;
        /** In rows of what is still to be written: a sign; that a list's rest lies beneath. */
        private static final int SIGN = 10;
        private static final int REST = 11;

        static final int ROOM = 2048;

        /** What is still to be tried against a pattern. */
        final long[] subjects = new long[ROOM];
        private final long[] left = new long[ROOM];
        private final long[] right = new long[ROOM];
        private final Words atoms;
        private byte[] out;
        private int from;
        private int length;

        Terms(Words atoms) {
            this.atoms = atoms;
        }

        static long make(int tag, int value) {
            return (long) tag << 32 | value & 4294967295L;
        }

        static int tag(long term) {
            return (int) (term >> 32);
        }

        /** The cells that a term itself has, without those of its parts. */
        static int cellsAt(long[] cells, long term) {
            int tag = (int) (term >> 32);
            int at = (int) term;
            if (tag == PAIR) {
                return 2;
            }
            if (tag == TUPLE) {
                return (int) cells[at] + 1;
            }
            return tag == FUN ? (int) cells[at + 1] + 2 : 0;
        }

        /** The cells of a copy of it. */
        int size(long[] cells, long term) {
            int total = 0;
            int top = 1;
            left[0] = term;
            for (int n = 0; n < MANY && top > 0; n++) {
                top--;
                int at = (int) left[top];
                int count = cellsAt(cells, left[top]);
                total += count;
                for (int i = 0; i < count && top < ROOM; i++) {
                    int tag = (int) (cells[at + i] >> 32);
                    if (tag == PAIR || tag == TUPLE || tag == FUN) {
                        left[top] = cells[at + i];
                        top++;
                    }
                }
            }
            return total;
        }

        /** Below 0, 0 (they are alike) or above 0. */
        int order(long[] cells, long one, long other) {
            int top = 1;
            left[0] = one;
            right[0] = other;
            for (int n = 0; n < MANY && top > 0; n++) {
                top--;
                int difference = orderAlone(cells, left[top], right[top]);
                if (difference != 0) {
                    return difference;
                }
                int a = (int) left[top];
                int b = (int) right[top];
                int count = cellsAt(cells, left[top]);
                int first = count - partsOf(left[top], count);
                // The first parts come uppermost, and are looked at first.
                for (int i = count - 1; i >= first && top < ROOM; i--) {
                    left[top] = cells[a + i];
                    right[top] = cells[b + i];
                    top++;
                }
            }
            return 0;
        }

        private static int partsOf(long term, int count) {
            int tag = tag(term);
            return tag == TUPLE ? count - 1 : tag == FUN ? count - 2 : count;
        }

        /** The order of two terms as far as it does not lie in their parts. */
        private int orderAlone(long[] cells, long one, long other) {
            int tag = tag(one);
            if (tag != tag(other)) {
                return tag - tag(other);
            }
            int a = (int) one;
            int b = (int) other;
            if (tag == ATOM) {
                return a == b ? 0 : atoms.order(a, b);
            }
            if (tag == TUPLE || tag == FUN) {
                return Integer.compare((int) cells[a], (int) cells[b]);
            }
            return tag == PAIR ? 0 : Integer.compare(a, b);
        }

        /** How long a list is, or NONE if it is none. */
        int listLength(long[] cells, long list) {
            long rest = list;
            int n = 0;
            while (n < MANY && tag(rest) == PAIR) {
                rest = cells[(int) rest + 1];
                n++;
            }
            return tag(rest) == NIL ? n : NONE;
        }

        /** Writes a term's text into a row from a place on, 100 signs at most; how many there are. */
        int text(long[] cells, long term, byte[] row, int place) {
            out = row;
            from = place;
            length = 0;
            int top = 1;
            left[0] = term;
            for (int n = 0; n < MANY && top > 0 && length < MOST_SIGNS; n++) {
                top--;
                long one = left[top];
                int at = (int) one;
                switch (tag(one)) {
                    case TUPLE:
                        write('{');
                        top = toWriteTuple(cells, at, top);
                        break;
                    case PAIR:
                        write('[');
                        top = toWritePair(cells, at, top);
                        break;
                    case REST:
                        top = toWriteRest(cells, top - 1);
                        break;
                    default:
                        writeAlone(one);
                        break;
                }
            }
            return length;
        }

        private int push(int top, long term) {
            if (top >= ROOM) {
                return top;
            }
            left[top] = term;
            return top + 1;
        }

        private int toWriteTuple(long[] cells, int at, int beneath) {
            int top = push(beneath, make(SIGN, '}'));
            for (int i = (int) cells[at]; i > 0; i--) {
                top = push(top, cells[at + i]);
                if (i > 1) {
                    top = push(top, make(SIGN, ','));
                }
            }
            return top;
        }

        private int toWritePair(long[] cells, int at, int beneath) {
            int top = push(beneath, cells[at + 1]);
            top = push(top, make(REST, 0));
            return push(top, cells[at]);
        }

        private int toWriteRest(long[] cells, int place) {
            long rest = place >= 0 ? left[place] : make(NIL, 0);
            int top = Math.max(place, 0);
            if (tag(rest) == NIL) {
                write(']');
                return top;
            }
            if (tag(rest) == PAIR) {
                write(',');
                return toWritePair(cells, (int) rest, top);
            }
            write('|');
            top = push(top, make(SIGN, ']'));
            return push(top, rest);
        }

        private void writeAlone(long term) {
            int value = (int) term;
            switch (tag(term)) {
                case NUMBER:
                    writeNumber(value);
                    break;
                case ATOM:
                    for (int k = 0; k < atoms.length(value); k++) {
                        write(atoms.sign(value, k));
                    }
                    break;
                case REFERENCE:
                    write('#');
                    writeNumber(value);
                    break;
                case PROCESS:
                    write('<');
                    writeNumber(value);
                    write('>');
                    break;
                case FUN:
                    write('f');
                    write('u');
                    write('n');
                    break;
                case NIL:
                    write('[');
                    write(']');
                    break;
                default:
                    write(value);
                    break;
            }
        }

        private void writeNumber(int number) {
            long rest = number;
            if (rest < 0) {
                write('-');
                rest = -rest;
            }
            long unit = 1;
            while (unit <= rest / 10) {
                unit *= 10;
            }
            for (; unit > 0; unit /= 10) {
                write((int) ('0' + rest / unit % 10));
            }
        }

        private void write(int sign) {
            if (length < MOST_SIGNS && from + length < out.length) {
                out[from + length] = (byte) sign;
                length++;
            }
        }
    }

    /** The FRAMES of a process; those of one process share one row of names and one of terms that wait. */
    private static final class Frames {
        static final int FUNCTION = 0;
        static final int LINE = 1;
        static final int NAMES = 2;
        static final int WAITS = 3;
        private static final int AT = 4;
        private static final int WIDTH = 5;
        private static final int CATCH_WIDTH = 4;

        private final int[] rows = new int[MOST_FRAMES * WIDTH];
        int count;
        private int[] names = new int[64];
        long[] terms = new long[64];
        int bound;
        long[] waits = new long[64];
        int waiting;
        private int[] catches = new int[32];
        int caught;
        /** The line of the CALL ahead of which it stopped, or 0. */
        int callLine;

        void clear() {
            count = 0;
            bound = 0;
            waiting = 0;
            caught = 0;
            callLine = 0;
        }

        int of(int row, int what) {
            return row < 0 || row >= count ? 0 : rows[row * WIDTH + what];
        }

        private void set(int what, int number) {
            if (count > 0) {
                rows[(count - 1) * WIDTH + what] = number;
            }
        }

        int namesIn(int row) {
            return (row + 1 < count ? of(row + 1, NAMES) : bound) - of(row, NAMES);
        }

        int waitsIn(int row) {
            return (row + 1 < count ? of(row + 1, WAITS) : waiting) - of(row, WAITS);
        }

        int place() {
            return of(count - 1, AT);
        }

        void setPlace(int at) {
            set(AT, at);
        }

        void setLine(int line) {
            set(LINE, line);
        }

        /** A new FRAME, to which the uppermost terms go as its ARGUMENTS. */
        void open(int function, int at, int arguments) {
            if (count >= MOST_FRAMES) {
                return;
            }
            count++;
            set(NAMES, bound);
            set(WAITS, waiting - arguments);
            set(FUNCTION, function);
            set(LINE, 0);
            set(AT, at);
        }

        /** A FRAME in place of the uppermost one. */
        void replace(int function, int at, int arguments) {
            int base = of(count - 1, WAITS);
            System.arraycopy(waits, waiting - arguments, waits, base, arguments);
            waiting = base + arguments;
            bound = of(count - 1, NAMES);
            set(FUNCTION, function);
            set(LINE, 0);
            set(AT, at);
        }

        void leave() {
            waiting = of(count - 1, WAITS);
            bound = of(count - 1, NAMES);
            count--;
        }

        void push(long term) {
            if (waiting >= waits.length) {
                waits = Arrays.copyOf(waits, waits.length * 2);
            }
            waits[waiting] = term;
            waiting++;
        }

        /** The k-th waiting term from above; 0 is the uppermost. */
        long below(int k) {
            int place = waiting - 1 - k;
            return place < 0 ? 0 : waits[place];
        }

        void drop(int n) {
            waiting = Math.max(0, waiting - n);
        }

        /** Takes out the term under the n uppermost ones. */
        void takeOut(int n) {
            int place = waiting - n - 1;
            if (place >= 0) {
                System.arraycopy(waits, place + 1, waits, place, n);
                waiting--;
            }
        }

        void bind(int name, long term) {
            if (bound >= terms.length) {
                terms = Arrays.copyOf(terms, terms.length * 2);
                names = Arrays.copyOf(names, names.length * 2);
            }
            names[bound] = name;
            terms[bound] = term;
            bound++;
        }

        void forget(int n) {
            bound = Math.max(0, bound - n);
        }

        long termOf(int name) {
            for (int i = bound - 1; i >= 0; i--) {
                if (names[i] == name) {
                    return terms[i];
                }
            }
            return 0;
        }

        void catchTo(int at) {
            int place = caught * CATCH_WIDTH;
            if (place >= catches.length) {
                catches = Arrays.copyOf(catches, catches.length * 2);
            }
            catches[place] = count;
            catches[place + 1] = bound;
            catches[place + 2] = waiting;
            catches[place + 3] = at;
            caught++;
        }

        /** Back to the innermost catch, which is over then; where it goes on. */
        int unwind() {
            if (caught == 0) {
                return 0;
            }
            caught--;
            int place = caught * CATCH_WIDTH;
            count = catches[place];
            bound = catches[place + 1];
            waiting = catches[place + 2];
            return catches[place + 3];
        }
    }

    private static final class Process {
        static final int GOES = 0;
        static final int WAITS = 1;
        static final int ENDED = 3;
        private static final int NEVER = -1;
        /** A REASON may lie behind a full heap. */
        private static final int ROOM = CELLS + 12;

        final int number;
        final Frames frames = new Frames();
        long[] cells = new long[ROOM];
        private long[] spare = new long[ROOM];
        int used;
        int clearings;
        final long[] box = new long[MOST_MESSAGES];
        int boxed;
        /** How many messages of the BOX the receive has tried. */
        int tried;
        int state;
        /** When its receive has waited long enough, or NEVER. */
        long until;
        boolean traps;
        int name;
        int calls;
        final int[] links = new int[MOST_PROCESSES];
        int linked;
        long reason;
        /** In whose cells the REASON lies. */
        Process home;

        Process(int number) {
            this.number = number;
        }

        void clear() {
            frames.clear();
            used = 0;
            clearings = 0;
            boxed = 0;
            tried = 0;
            state = GOES;
            until = NEVER;
            traps = false;
            name = NONE;
            calls = 0;
            linked = 0;
            reason = 0;
            home = this;
        }

        /** Whether there is room for so many cells more; the heap is cleared if it must be. */
        boolean want(int more) {
            if (used + more > CELLS) {
                clearHeap();
            }
            return used + more <= CELLS;
        }

        /** Moves what can be reached to the spare row, each once; what was moved says where it is now. */
        private void clearHeap() {
            clearings++;
            int top = 0;
            for (int kind = 0; kind < 4; kind++) {
                long[] row = kind == 0 ? frames.terms : kind == 1 ? frames.waits : kind == 2 ? box : spare;
                int fixed = kind == 0 ? frames.bound : kind == 1 ? frames.waiting : kind == 2 ? boxed : 0;
                // The spare row itself grows while it is gone through.
                for (int i = 0; i < (kind == 3 ? top : fixed); i++) {
                    int tag = (int) (row[i] >> 32);
                    if (tag != Terms.PAIR && tag != Terms.TUPLE && tag != Terms.FUN) {
                        continue;
                    }
                    int at = (int) row[i];
                    if ((int) (cells[at] >> 32) != Terms.MOVED) {
                        int count = Terms.cellsAt(cells, row[i]);
                        System.arraycopy(cells, at, spare, top, count);
                        cells[at] = (long) Terms.MOVED << 32 | top;
                        top += count;
                    }
                    row[i] = (long) tag << 32 | (int) cells[at];
                }
            }
            long[] old = cells;
            cells = spare;
            spare = old;
            used = top;
        }

        /** A copy here of a term whose cells lie elsewhere; each as often as it is met. */
        long copyIn(long[] elsewhere, long term) {
            long copy = term;
            int start = used;
            for (int i = start - 1; i < used; i++) {
                long one = i < start ? term : cells[i];
                int count = Terms.cellsAt(elsewhere, one);
                if (count == 0 || used + count > ROOM) {
                    continue;
                }
                long here = one >> 32 << 32 | used;
                System.arraycopy(elsewhere, (int) one, cells, used, count);
                used += count;
                if (i < start) {
                    copy = here;
                } else {
                    cells[i] = here;
                }
            }
            return copy;
        }

        /** Puts {ATOM, term} behind all cells; the ROOM is looked at by who wants it. */
        long pair(int atom, long term) {
            if (used + 3 > ROOM) {
                return term;
            }
            int at = used;
            cells[at] = Terms.make(Terms.HEAD, 2);
            cells[at + 1] = Terms.make(Terms.ATOM, atom);
            cells[at + 2] = term;
            used += 3;
            return Terms.make(Terms.TUPLE, at);
        }

        void comes(long message) {
            if (boxed < MOST_MESSAGES) {
                box[boxed] = message;
                boxed++;
            }
        }

        /** The message that is tried goes out of the BOX. */
        void takeMessage() {
            if (tried < boxed) {
                System.arraycopy(box, tried + 1, box, tried, boxed - tried - 1);
                boxed--;
            }
            tried = 0;
            until = NEVER;
        }

        /** What the CLOCK is when it goes on by itself, or NONE. */
        int wakes() {
            return until == NEVER ? NONE : (int) Math.min(until, LATEST);
        }

        int seekLink(int other) {
            for (int i = 0; i < linked; i++) {
                if (links[i] == other) {
                    return i;
                }
            }
            return NONE;
        }

        void addLink(int other) {
            if (linked < MOST_PROCESSES) {
                links[linked] = other;
                linked++;
            }
        }

        void removeLink(int other) {
            int i = seekLink(other);
            if (i != NONE) {
                System.arraycopy(links, i + 1, links, i, linked - i - 1);
                linked--;
            }
        }
    }

    /** All processes of a run, what they tell one another, and what they have printed. */
    private static final class World {
        /** What stands around a term that is told: so many cells. */
        static final int PLAIN = 0;
        static final int EXITED = 4;
        static final int WENT_DOWN = 5;

        private final Terms terms;
        private final Process[] processes = new Process[MOST_PROCESSES];
        int count;
        boolean begun;
        int time;
        int references;
        int calls;
        private final int[] watchers = new int[MOST_WATCHES];
        private final int[] watched = new int[MOST_WATCHES];
        private final int[] watchedBy = new int[MOST_WATCHES];
        int watches;
        final byte[] output = new byte[MOST_LINES * MOST_SIGNS];
        final int[] lengths = new int[MOST_LINES];
        int lines;
        /** Those that have ENDED, in that order, and how many of them have been told of. */
        private final int[] ended = new int[MOST_PROCESSES];
        private int ends;
        private int settled;

        World(Terms terms) {
            this.terms = terms;
        }

        void clearAll() {
            count = 0;
            begun = false;
            time = 0;
            references = 0;
            calls = 0;
            watches = 0;
            lines = 0;
            ends = 0;
            settled = 0;
        }

        Process find(int p) {
            return p < 0 || p >= count ? null : processes[p];
        }

        /** A new process, or null if there can be no more. */
        Process born() {
            if (count >= MOST_PROCESSES) {
                return null;
            }
            if (processes[count] == null) {
                processes[count] = new Process(count);
            }
            Process one = processes[count];
            one.clear();
            count++;
            return one;
        }

        /** Whether one that waits may go on. */
        boolean isReady(Process one) {
            return one.tried < one.boxed || one.until != Process.NEVER && one.until <= time;
        }

        /** The process of that name, or null. */
        Process named(int atom) {
            for (int p = 0; p < count; p++) {
                Process one = processes[p];
                if (one != null && one.name == atom && one.state != Process.ENDED) {
                    return one;
                }
            }
            return null;
        }

        int watchesOf(int p) {
            int n = 0;
            for (int w = 0; w < watches; w++) {
                n += watchers[w] == p ? 1 : 0;
            }
            return n;
        }

        void addWatch(int watcher, int other, int reference) {
            if (watches < MOST_WATCHES) {
                watchers[watches] = watcher;
                watched[watches] = other;
                watchedBy[watches] = reference;
                watches++;
            }
        }

        void removeWatch(int watcher, int reference) {
            int kept = 0;
            for (int w = 0; w < watches; w++) {
                if (watchers[w] != watcher || watchedBy[w] != reference) {
                    keepWatch(w, kept);
                    kept++;
                }
            }
            watches = kept;
        }

        private void keepWatch(int from, int to) {
            watchers[to] = watchers[from];
            watched[to] = watched[from];
            watchedBy[to] = watchedBy[from];
        }

        void print(long[] cells, long term) {
            if (lines < MOST_LINES) {
                lengths[lines] = terms.text(cells, term, output, lines * MOST_SIGNS);
                lines++;
            }
        }

        /**
         * A message to one: a copy of a term, alone or as {exit, P, T} or {down, R, P, T}. The source, whose
         * cells the term has, is null for a term without cells; one that tells itself has the term uppermost.
         */
        void post(Process to, int around, int from, int reference, long term, Process source) {
            if (to.state == Process.ENDED || to.boxed >= MOST_MESSAGES) {
                return;
            }
            int size = source == null ? 0 : terms.size(source.cells, term);
            if (!to.want(around + size)) {
                endsBy(to, HEAP);
                return;
            }
            // Clearing its own heap may have moved it.
            long told = source == to ? to.frames.below(0) : term;
            int at = to.used;
            to.used += around;
            long copy = source == null ? told : to.copyIn(source.cells, told);
            if (around == PLAIN) {
                to.comes(copy);
                return;
            }
            to.cells[at] = Terms.make(Terms.HEAD, around - 1);
            to.cells[at + 1] = Terms.make(Terms.ATOM, around == EXITED ? EXIT : DOWN);
            if (around == WENT_DOWN) {
                to.cells[at + 2] = Terms.make(Terms.REFERENCE, reference);
            }
            to.cells[at + around - 2] = Terms.make(Terms.PROCESS, from);
            to.cells[at + around - 1] = copy;
            to.comes(Terms.make(Terms.TUPLE, at));
        }

        /** From outside: {number, PROCESS}. */
        void postPair(Process to, int number) {
            if (to.state == Process.ENDED || to.boxed >= MOST_MESSAGES) {
                return;
            }
            if (!to.want(3)) {
                endsBy(to, HEAP);
                return;
            }
            int at = to.used;
            to.cells[at] = Terms.make(Terms.HEAD, 2);
            to.cells[at + 1] = Terms.make(Terms.NUMBER, number);
            to.cells[at + 2] = Terms.make(Terms.PROCESS, to.number);
            to.used += 3;
            to.comes(Terms.make(Terms.TUPLE, at));
        }

        /** An exit SIGNAL; the REASON's cells lie in those of the source. */
        void signal(int from, Process to, long reason, Process source) {
            if (to.state == Process.ENDED) {
                return;
            }
            if (to.traps) {
                post(to, EXITED, from, 0, reason, source);
                return;
            }
            boolean normal = reason == Terms.make(Terms.ATOM, NORMAL);
            if (normal && from != to.number) {
                return;
            }
            if (source == null || source == to) {
                endsWith(to, reason, to);
            } else if (source.state == Process.ENDED) {
                endsWith(to, reason, source);
            } else {
                // The teller goes on and will clear its heap: the one that ENDS keeps a copy in its own.
                to.used = 0;
                endsWith(to, to.copyIn(source.cells, reason), to);
            }
        }

        void endsBy(Process one, int atom) {
            endsWith(one, Terms.make(Terms.ATOM, atom), one);
        }

        /** One has ENDED at once; what that tells others comes in its turn, in settle(). */
        void endsWith(Process one, long reason, Process home) {
            if (one.state == Process.ENDED || ends >= MOST_PROCESSES) {
                return;
            }
            one.state = Process.ENDED;
            one.reason = reason;
            one.home = home;
            ended[ends] = one.number;
            ends++;
        }

        /** Tells of those that have ENDED, one after another; more may join them behind. */
        void settle() {
            for (; settled < ends; settled++) {
                Process one = processes[ended[settled]];
                if (one == null) {
                    continue;
                }
                one.name = NONE;
                for (int i = 0; i < one.linked; i++) {
                    Process other = find(one.links[i]);
                    if (other != null) {
                        other.removeLink(one.number);
                        signal(one.number, other, one.reason, one.home);
                    }
                }
                one.linked = 0;
                tellWatchers(one);
            }
        }

        /** Those that watch one hear of it; its own watches go. */
        private void tellWatchers(Process one) {
            int kept = 0;
            for (int w = 0; w < watches; w++) {
                Process watcher = find(watchers[w]);
                if (watched[w] == one.number && watcher != null) {
                    post(watcher, WENT_DOWN, one.number, watchedBy[w], one.reason, one.home);
                } else if (watchers[w] != one.number) {
                    keepWatch(w, kept);
                    kept++;
                }
            }
            watches = kept;
        }
    }

    /** Lets one process go on. */
    private static final class Machine {
        private static final int NOTHING = 0;
        private static final int AN_ERROR = 1;
        private static final int AN_EXIT = 2;
        private static final int A_THROW = 3;

        private final Code code;
        private final World world;
        private final Terms terms;
        private Process p;
        private Frames frames;
        private int at;
        private int began;
        private int wanted;
        private boolean stopped;
        /** What has gone WRONG: how it is told, its term, and the ATOM that stands with it in a TUPLE. */
        private int told;
        private long toldTerm;
        private int toldAround;
        /** Where it goes on if the GUARD does not hold, or 0 outside of one. */
        private int guard;
        private int guardNames;
        private int guardWaiting;

        Machine(Code code, World world, Terms terms) {
            this.code = code;
            this.world = world;
            this.terms = terms;
        }

        /** How many CALLS began. */
        int goOn(Process one, int most) {
            p = one;
            frames = one.frames;
            at = frames.place();
            began = 0;
            wanted = most;
            stopped = false;
            told = NOTHING;
            guard = 0;
            p.state = Process.GOES;
            frames.callLine = 0;
            for (int n = 0; n < MANY && p.state == Process.GOES && !stopped; n++) {
                int op = code.at(at);
                if (op == Code.PREDEFINED) {
                    predefined(code.at(at + 1));
                } else if (op == Code.TOWARD) {
                    toward(code.at(at + 1));
                } else if (op < Code.COMPARE) {
                    making(op);
                } else if (op < Code.JUMP) {
                    value(op);
                } else {
                    flow(op);
                }
                if (told != NOTHING) {
                    raise();
                }
                world.settle();
            }
            frames.setPlace(at);
            return began;
        }

        private static long atom(int which) {
            return Terms.make(Terms.ATOM, which);
        }

        private static long truth(boolean is) {
            return atom(is ? TRUE : FALSE);
        }

        private void answer(int taken, long term) {
            frames.drop(taken);
            frames.push(term);
        }

        private void tell(int how, int around, long term) {
            told = how;
            toldAround = around;
            toldTerm = term;
        }

        private void wrong(int atom) {
            tell(AN_ERROR, NONE, atom(atom));
        }

        /** Room for so many cells; without it the process has ENDED. */
        private boolean room(int cells) {
            if (p.want(cells)) {
                return true;
            }
            world.endsBy(p, HEAP);
            return false;
        }

        /** {ATOM, T} comes in place of T, the uppermost that waits. */
        private boolean wrap(int atom) {
            if (!room(3)) {
                return false;
            }
            answer(1, p.pair(atom, frames.below(0)));
            return true;
        }

        /** What was told goes up to the innermost catch, or the process ENDS. */
        private void raise() {
            int how = told;
            told = NOTHING;
            if (guard != 0) {
                guardFails();
                return;
            }
            if (toldAround != NONE) {
                frames.push(toldTerm);
                if (!wrap(toldAround)) {
                    return;
                }
                toldTerm = frames.below(0);
            }
            if (frames.caught == 0) {
                long reason = how == AN_EXIT ? toldTerm : p.pair(how == AN_ERROR ? ERROR : NOCATCH, toldTerm);
                world.endsWith(p, reason, p);
                return;
            }
            at = frames.unwind();
            frames.push(toldTerm);
            if (how != A_THROW) {
                wrap(how == AN_ERROR ? ERROR : EXIT);
            }
        }

        private void guardFails() {
            frames.waiting = guardWaiting;
            frames.forget(guardNames);
            at = guard;
            guard = 0;
        }

        /** What brings a term, or makes it of its parts. */
        private void making(int op) {
            int operand = code.at(at + 1);
            switch (op) {
                case Code.TERM:
                    frames.push(Terms.make(operand, code.at(at + 2)));
                    at += 3;
                    break;
                case Code.STRING:
                    string(operand);
                    break;
                case Code.NAME:
                    frames.push(frames.termOf(operand));
                    at += 2;
                    break;
                case Code.TUPLE:
                    tuple(operand);
                    break;
                case Code.LIST:
                    list(operand);
                    break;
                case Code.FUN:
                    fun(operand);
                    break;
                case Code.FUN_OF:
                    funOf(operand);
                    break;
                default:
                    stopped = true;
                    break;
            }
        }

        /** What works out a sign, and what lets go of terms and names. */
        private void value(int op) {
            int operand = code.at(at + 1);
            switch (op) {
                case Code.COMPARE:
                    int order = terms.order(p.cells, frames.below(1), frames.below(0));
                    answer(2, truth(holds(operand, order)));
                    at += 2;
                    break;
                case Code.ARITHMETIC:
                    arithmetic(operand);
                    break;
                case Code.NEGATE:
                    negate();
                    break;
                case Code.NOT:
                    not();
                    break;
                case Code.AND:
                case Code.OR:
                    hinge(op == Code.AND, operand);
                    break;
                case Code.DROP:
                    frames.drop(1);
                    at++;
                    break;
                case Code.FORGET:
                    frames.forget(operand);
                    at += 2;
                    break;
                case Code.SEND:
                    sendTo();
                    break;
                case Code.JOIN:
                    if (operand == Tokens.JOIN) {
                        join();
                    } else {
                        without();
                    }
                    break;
                default:
                    stopped = true;
                    break;
            }
        }

        /** The cells of copies of the uppermost terms, and so many more. */
        private int sizes(int count, int more) {
            int sum = more;
            for (int i = 0; i < count; i++) {
                sum += terms.size(p.cells, frames.below(i));
            }
            return sum;
        }

        private void string(int count) {
            if (!room(2 * count)) {
                return;
            }
            int start = p.used;
            for (int i = 0; i < count; i++) {
                p.cells[start + 2 * i] = Terms.make(Terms.NUMBER, code.at(at + 2 + i));
                p.cells[start + 2 * i + 1] = Terms.make(Terms.PAIR, start + 2 * i + 2);
            }
            endList(start, count, Terms.make(Terms.NIL, 0));
            frames.push(count == 0 ? Terms.make(Terms.NIL, 0) : Terms.make(Terms.PAIR, start));
            at += 2 + count;
        }

        /** The last one's tail, behind so many PAIRS that were made one behind the other. */
        private void endList(int start, int count, long rest) {
            if (count > 0) {
                p.cells[start + 2 * count - 1] = rest;
            }
            p.used = start + 2 * count;
        }

        private void tuple(int count) {
            if (sizes(count, count + 1) > CELLS) {
                wrong(BADARG);
                return;
            }
            if (!room(count + 1)) {
                return;
            }
            int start = p.used;
            p.cells[start] = Terms.make(Terms.HEAD, count);
            for (int i = 0; i < count; i++) {
                p.cells[start + 1 + i] = frames.below(count - 1 - i);
            }
            p.used += count + 1;
            answer(count, Terms.make(Terms.TUPLE, start));
            at += 2;
        }

        private void list(int count) {
            if (sizes(count + 1, 2 * count) > CELLS) {
                wrong(BADARG);
                return;
            }
            if (!room(2 * count)) {
                return;
            }
            int start = p.used;
            for (int i = 0; i < count; i++) {
                p.cells[start + 2 * i] = frames.below(count - i);
                p.cells[start + 2 * i + 1] = Terms.make(Terms.PAIR, start + 2 * i + 2);
            }
            endList(start, count, frames.below(0));
            answer(count + 1, Terms.make(Terms.PAIR, start));
            at += 2;
        }

        private void fun(int place) {
            int held = code.at(at + 2);
            int sum = held + 2;
            for (int i = 0; i < held; i++) {
                sum += terms.size(p.cells, frames.termOf(code.at(at + 3 + i)));
            }
            if (sum > CELLS) {
                wrong(BADARG);
                return;
            }
            if (!room(held + 2)) {
                return;
            }
            int start = p.used;
            p.cells[start] = Terms.make(Terms.HEAD, place);
            p.cells[start + 1] = Terms.make(Terms.HEAD, held);
            for (int i = 0; i < held; i++) {
                p.cells[start + 2 + i] = frames.termOf(code.at(at + 3 + i));
            }
            p.used += held + 2;
            frames.push(Terms.make(Terms.FUN, start));
            at += 3 + held;
        }

        private void funOf(int f) {
            if (!room(2)) {
                return;
            }
            int start = p.used;
            p.cells[start] = Terms.make(Terms.HEAD, Code.OF_FUNCTION + f);
            p.cells[start + 1] = Terms.make(Terms.HEAD, 0);
            p.used += 2;
            frames.push(Terms.make(Terms.FUN, start));
            at += 2;
        }

        private static boolean holds(int kind, int order) {
            switch (kind) {
                case Tokens.SAME:
                    return order == 0;
                case Tokens.OTHER:
                    return order != 0;
                case Tokens.LESS:
                    return order < 0;
                case Tokens.AT_MOST:
                    return order <= 0;
                case Tokens.GREATER:
                    return order > 0;
                default:
                    return order >= 0;
            }
        }

        private void arithmetic(int kind) {
            boolean numbers = Terms.tag(frames.below(1)) == Terms.NUMBER && Terms.tag(frames.below(0)) == Terms.NUMBER;
            long a = (int) frames.below(1);
            long b = (int) frames.below(0);
            boolean divides = kind == Tokens.DIV || kind == Tokens.REM;
            if (!numbers || divides && b == 0) {
                wrong(BADARITH);
                return;
            }
            long result;
            switch (kind) {
                case Tokens.PLUS:
                    result = a + b;
                    break;
                case Tokens.MINUS:
                    result = a - b;
                    break;
                case Tokens.TIMES:
                    result = a * b;
                    break;
                case Tokens.DIV:
                    result = b == 0 ? 0 : a / b;
                    break;
                default:
                    result = b == 0 ? 0 : a % b;
                    break;
            }
            number(2, result, 2);
        }

        private void number(int taken, long result, int width) {
            if (result != (int) result) {
                wrong(BADARITH);
                return;
            }
            answer(taken, Terms.make(Terms.NUMBER, (int) result));
            at += width;
        }

        private void negate() {
            if (Terms.tag(frames.below(0)) != Terms.NUMBER) {
                wrong(BADARITH);
                return;
            }
            number(1, -(long) (int) frames.below(0), 1);
        }

        private void not() {
            long term = frames.below(0);
            if (term != atom(TRUE) && term != atom(FALSE)) {
                wrong(BADARG);
                return;
            }
            answer(1, truth(term == atom(FALSE)));
            at++;
        }

        /** andalso goes on to its second way with true, orelse with false. */
        private void hinge(boolean and, int behind) {
            long term = frames.below(0);
            if (term != atom(TRUE) && term != atom(FALSE)) {
                wrong(BADARG);
            } else if (term == truth(and)) {
                frames.drop(1);
                at += 2;
            } else {
                at = behind;
            }
        }

        private void join() {
            int count = terms.listLength(p.cells, frames.below(1));
            if (count == 0) {
                answer(2, frames.below(0));
                at += 2;
                return;
            }
            if (count == NONE || sizes(2, 0) > CELLS) {
                wrong(BADARG);
                return;
            }
            if (!room(2 * count)) {
                return;
            }
            int start = p.used;
            long rest = frames.below(1);
            for (int i = 0; i < count; i++) {
                p.cells[start + 2 * i] = p.cells[(int) rest];
                p.cells[start + 2 * i + 1] = Terms.make(Terms.PAIR, start + 2 * i + 2);
                rest = p.cells[(int) rest + 1];
            }
            endList(start, count, frames.below(0));
            answer(2, Terms.make(Terms.PAIR, start));
            at += 2;
        }

        private void without() {
            int count = terms.listLength(p.cells, frames.below(1));
            if (count == NONE || count > Terms.ROOM || terms.listLength(p.cells, frames.below(0)) == NONE) {
                wrong(BADARG);
                return;
            }
            int up = markGone(count);
            int kept = 0;
            for (int i = 0; i < up; i++) {
                kept += terms.subjects[i] == 0 ? 1 : 0;
            }
            if (!room(2 * kept)) {
                return;
            }
            int start = p.used;
            int made = 0;
            long rest = frames.below(1);
            for (int i = 0; i < up; i++) {
                if (terms.subjects[i] == 0) {
                    p.cells[start + 2 * made] = p.cells[(int) rest];
                    p.cells[start + 2 * made + 1] = Terms.make(Terms.PAIR, start + 2 * made + 2);
                    made++;
                }
                rest = p.cells[(int) rest + 1];
            }
            endList(start, made, rest);
            answer(2, made == 0 ? rest : Terms.make(Terms.PAIR, start));
            at += 2;
        }

        /** Marks with 1 which parts of the first list go; how many parts there are up to the last of them. */
        private int markGone(int count) {
            for (int i = 0; i < count; i++) {
                terms.subjects[i] = 0;
            }
            int up = 0;
            long goes = frames.below(0);
            for (int n = 0; n < MANY && Terms.tag(goes) == Terms.PAIR; n++) {
                long rest = frames.below(1);
                for (int i = 0; i < count; i++) {
                    if (terms.subjects[i] == 0 && terms.order(p.cells, p.cells[(int) rest], p.cells[(int) goes]) == 0) {
                        terms.subjects[i] = 1;
                        up = Math.max(up, i + 1);
                        break;
                    }
                    rest = p.cells[(int) rest + 1];
                }
                goes = p.cells[(int) goes + 1];
            }
            return up;
        }

        private void sendTo() {
            long whom = frames.below(1);
            Process to = Terms.tag(whom) == Terms.ATOM ? world.named((int) whom) : processAt(1);
            if (to == null) {
                wrong(BADARG);
                return;
            }
            world.post(to, World.PLAIN, p.number, 0, frames.below(0), p);
            answer(2, frames.below(0));
            at++;
        }

        /** What says where it goes on. */
        private void flow(int op) {
            int operand = code.at(at + 1);
            switch (op) {
                case Code.JUMP:
                    at = operand;
                    break;
                case Code.FIT:
                    tries(operand);
                    break;
                case Code.MATCH:
                    match();
                    break;
                case Code.GUARD:
                    guardNames = operand;
                    guard = code.at(at + 2);
                    guardWaiting = frames.waiting;
                    at += 3;
                    break;
                case Code.HOLDS:
                    if (frames.below(0) != atom(TRUE)) {
                        guardFails();
                    } else {
                        frames.drop(1);
                        at++;
                    }
                    break;
                case Code.GUARDED:
                    guard = 0;
                    at++;
                    break;
                case Code.CHOSEN:
                    frames.drop(operand);
                    frames.setLine(code.at(at + 2));
                    at += 3;
                    break;
                case Code.CALL:
                case Code.LAST_CALL:
                    call(operand, op == Code.LAST_CALL);
                    break;
                case Code.APPLY:
                case Code.LAST_APPLY:
                    apply(operand, op == Code.LAST_APPLY);
                    break;
                case Code.CATCH:
                    frames.catchTo(operand);
                    at += 2;
                    break;
                case Code.CAUGHT:
                    frames.caught--;
                    at++;
                    break;
                default:
                    waitOrLeave(op, operand);
                    break;
            }
        }

        /** Waiting, returning, and what is done when nothing fits. */
        private void waitOrLeave(int op, int operand) {
            switch (op) {
                case Code.AWAIT:
                    await(operand == 1);
                    break;
                case Code.NEXT:
                    nextMessage(operand);
                    break;
                case Code.TAKE:
                    p.takeMessage();
                    at++;
                    break;
                case Code.SKIP:
                    p.tried++;
                    at = operand;
                    break;
                case Code.RETURN:
                    returns();
                    break;
                case Code.NO_CLAUSE:
                    wrong(FUNCTION_CLAUSE);
                    break;
                case Code.NO_CASE:
                    tell(AN_ERROR, CASE_CLAUSE, frames.below(0));
                    break;
                case Code.NO_CHOICE:
                    wrong(IF_CLAUSE);
                    break;
                default:
                    stopped = true;
                    break;
            }
        }

        private void tries(int what) {
            int names = frames.bound;
            int count = what >= 0 ? what : 1;
            for (int i = 0; i < count; i++) {
                boolean message = what == Code.MESSAGE && p.tried < MOST_MESSAGES;
                terms.subjects[i] = message ? p.box[p.tried] : frames.below(i);
            }
            int end = fit(at + 3, count);
            if (end == NONE) {
                frames.bound = names;
                at = code.at(at + 2);
            } else {
                at = end;
            }
        }

        private void match() {
            int names = frames.bound;
            terms.subjects[0] = frames.below(0);
            int end = fit(at + 1, 1);
            if (end == NONE) {
                frames.bound = names;
                tell(AN_ERROR, BADMATCH, frames.below(0));
            } else {
                at = end;
            }
        }

        /** Tries the subjects, the first one uppermost, against patterns; where these end, or NONE. */
        private int fit(int pattern, int subjects) {
            long[] row = terms.subjects;
            int place = pattern;
            int top = subjects;
            for (int n = 0; n < MANY && code.at(place) != Code.FITS; n++) {
                top--;
                if (top < 0 || top + 8 >= Terms.ROOM) {
                    return NONE;
                }
                long term = row[top];
                int operand = code.at(place + 1);
                switch (code.at(place)) {
                    case Code.SAME_TERM:
                        if (term != Terms.make(operand, code.at(place + 2))) {
                            return NONE;
                        }
                        place += 3;
                        break;
                    case Code.SAME_STRING:
                        if (!fitsString(place, term)) {
                            return NONE;
                        }
                        place += 2 + operand;
                        break;
                    case Code.SAME_NAME:
                        if (terms.order(p.cells, frames.termOf(operand), term) != 0) {
                            return NONE;
                        }
                        place += 2;
                        break;
                    case Code.BIND:
                        frames.bind(operand, term);
                        place += 2;
                        break;
                    case Code.PARTS:
                        if (Terms.tag(term) != Terms.TUPLE || (int) p.cells[(int) term] != operand) {
                            return NONE;
                        }
                        for (int i = operand; i > 0; i--) {
                            row[top] = p.cells[(int) term + i];
                            top++;
                        }
                        place += 2;
                        break;
                    case Code.PAIR:
                        if (Terms.tag(term) != Terms.PAIR) {
                            return NONE;
                        }
                        row[top] = p.cells[(int) term + 1];
                        row[top + 1] = p.cells[(int) term];
                        top += 2;
                        place++;
                        break;
                    default:
                        place++;
                        break;
                }
            }
            return place + 1;
        }

        private boolean fitsString(int place, long term) {
            long rest = term;
            int count = code.at(place + 1);
            for (int i = 0; i < count; i++) {
                if (Terms.tag(rest) != Terms.PAIR) {
                    return false;
                }
                if (p.cells[(int) rest] != Terms.make(Terms.NUMBER, code.at(place + 2 + i))) {
                    return false;
                }
                rest = p.cells[(int) rest + 1];
            }
            return Terms.tag(rest) == Terms.NIL;
        }

        /** Whether a CALL begins now; if not, it has stopped ahead of it, or the process has ENDED. */
        private boolean begins(boolean last, int line) {
            if (began >= wanted) {
                stopped = true;
                frames.callLine = line;
                return false;
            }
            if (!last && frames.count >= MOST_FRAMES) {
                world.endsBy(p, STACK);
                return false;
            }
            began++;
            p.calls++;
            world.calls++;
            return true;
        }

        private void call(int f, boolean last) {
            if (begins(last, code.at(at + 3)) && f >= 0 && f < code.functions) {
                enter(f, code.entry[f], code.at(at + 2), last, at + 4);
            }
        }

        private void enter(int f, int entry, int arguments, boolean last, int behind) {
            if (last) {
                frames.replace(f, entry, arguments);
            } else {
                frames.setPlace(behind);
                frames.open(f, entry, arguments);
            }
            at = entry;
        }

        private void apply(int count, boolean last) {
            long fun = frames.below(count);
            if (Terms.tag(fun) != Terms.FUN) {
                tell(AN_ERROR, BADFUN, fun);
                return;
            }
            int place = (int) p.cells[(int) fun];
            if (code.takes(place) != count) {
                tell(AN_ERROR, BADARITY, Terms.make(Terms.NUMBER, count));
                return;
            }
            if (!begins(last, code.at(at + 2))) {
                return;
            }
            frames.takeOut(count);
            enter(functionOf(place), entryOf(place), count, last, at + 3);
            hold(frames, p.cells, fun);
        }

        private static int functionOf(int place) {
            return place >= Code.OF_FUNCTION ? place - Code.OF_FUNCTION : NONE;
        }

        private int entryOf(int place) {
            int f = functionOf(place);
            if (f >= 0) {
                return f < code.functions ? code.entry[f] : 0;
            }
            return place >= 0 && place < code.places ? code.placeEntry[place] : 0;
        }

        /** The names that a FUN holds are bound in its FRAME. */
        private void hold(Frames where, long[] cells, long fun) {
            int place = (int) cells[(int) fun];
            if (place < 0 || place >= code.places) {
                return;
            }
            int names = code.placeHeld[place];
            for (int i = 0; i < code.at(names); i++) {
                where.bind(code.at(names + 1 + i), cells[(int) fun + 2 + i]);
            }
        }

        private void await(boolean timed) {
            p.tried = 0;
            p.until = Process.NEVER;
            if (timed) {
                long term = frames.below(0);
                boolean number = Terms.tag(term) == Terms.NUMBER && (int) term >= 0;
                if (!number && term != atom(INFINITY)) {
                    wrong(BADARG);
                    return;
                }
                if (number) {
                    p.until = (long) world.time + (int) term;
                }
                frames.drop(1);
            }
            at += 2;
        }

        private void nextMessage(int late) {
            if (p.tried < p.boxed) {
                at += 2;
            } else if (world.isReady(p)) {
                p.tried = 0;
                p.until = Process.NEVER;
                at = late;
            } else {
                p.state = Process.WAITS;
            }
        }

        private void returns() {
            if (frames.count <= 1) {
                world.endsBy(p, NORMAL);
                return;
            }
            long term = frames.below(0);
            frames.leave();
            frames.push(term);
            at = frames.place();
        }

        private void predefined(int id) {
            switch (id) {
                case SPAWN:
                    spawn();
                    break;
                case PRINT:
                    world.print(p.cells, frames.below(0));
                    answer(1, atom(OK));
                    break;
                case NAME:
                case UNNAME:
                case NAMED:
                    naming(id);
                    break;
                default:
                    if (id >= IS_NUMBER && id <= SIZE) {
                        test(id);
                    } else {
                        alone(id);
                    }
                    break;
            }
            if (told == NOTHING) {
                at += 2;
            }
        }

        private void spawn() {
            long fun = frames.below(0);
            boolean fits = Terms.tag(fun) == Terms.FUN && code.takes((int) p.cells[(int) fun]) == 0;
            Process child = fits ? world.born() : null;
            if (child == null) {
                wrong(BADARG);
                return;
            }
            int place = (int) p.cells[(int) fun];
            child.frames.open(functionOf(place), entryOf(place), 0);
            if (child.want(terms.size(p.cells, fun))) {
                hold(child.frames, child.cells, child.copyIn(p.cells, fun));
            } else {
                world.endsBy(child, HEAP);
            }
            answer(1, Terms.make(Terms.PROCESS, child.number));
        }

        /** The process that waits as the k-th term from above, or null. */
        private Process processAt(int k) {
            long term = frames.below(k);
            return Terms.tag(term) == Terms.PROCESS ? world.find((int) term) : null;
        }

        /** What one does to another, which is the first ARGUMENT. */
        private void toward(int id) {
            int taken = id == EXIT_OTHER ? 2 : 1;
            Process other = processAt(taken - 1);
            boolean great = id == EXIT_OTHER && terms.size(p.cells, frames.below(0)) > CELLS;
            if (other == null || great || id == WATCH && world.watches >= MOST_WATCHES) {
                wrong(BADARG);
                return;
            }
            long value = atom(TRUE);
            switch (id) {
                case LINK:
                    if (other.state == Process.ENDED) {
                        world.signal(other.number, p, atom(NOBODY), null);
                    } else if (other != p && p.seekLink(other.number) == NONE) {
                        p.addLink(other.number);
                        other.addLink(p.number);
                    }
                    break;
                case UNLINK:
                    p.removeLink(other.number);
                    other.removeLink(p.number);
                    break;
                case WATCH:
                    value = watch(other);
                    break;
                case EXIT_OTHER:
                    if (frames.below(0) == atom(KILL)) {
                        world.endsBy(other, KILLED);
                    } else {
                        world.signal(p.number, other, frames.below(0), p);
                    }
                    break;
                default:
                    value = truth(other.state != Process.ENDED);
                    break;
            }
            answer(taken, value);
            at += 2;
        }

        /** The REFERENCE of the watch. */
        private long watch(Process other) {
            int reference = world.references;
            world.references++;
            if (other.state == Process.ENDED) {
                world.post(p, World.WENT_DOWN, other.number, reference, atom(NOBODY), null);
            } else if (other != p) {
                world.addWatch(p.number, other.number, reference);
            }
            return Terms.make(Terms.REFERENCE, reference);
        }

        private void naming(int id) {
            long term = frames.below(id == NAME ? 1 : 0);
            if (Terms.tag(term) != Terms.ATOM) {
                wrong(BADARG);
                return;
            }
            Process holder = world.named((int) term);
            if (id == NAMED) {
                answer(1, holder == null ? atom(NOBODY) : Terms.make(Terms.PROCESS, holder.number));
                return;
            }
            if (id == UNNAME) {
                if (holder == null) {
                    wrong(BADARG);
                    return;
                }
                holder.name = NONE;
                answer(1, atom(TRUE));
                return;
            }
            Process one = processAt(0);
            if (one == null || holder != null || one.name != NONE || one.state == Process.ENDED) {
                wrong(BADARG);
                return;
            }
            one.name = (int) term;
            answer(2, atom(TRUE));
        }

        /** What needs no other process. */
        private void alone(int id) {
            long term = frames.below(0);
            switch (id) {
                case SELF:
                    answer(0, Terms.make(Terms.PROCESS, p.number));
                    break;
                case UNWATCH:
                    if (Terms.tag(term) != Terms.REFERENCE) {
                        wrong(BADARG);
                        break;
                    }
                    world.removeWatch(p.number, (int) term);
                    answer(1, atom(TRUE));
                    break;
                case TRAP:
                    if (term != atom(TRUE) && term != atom(FALSE)) {
                        wrong(BADARG);
                        break;
                    }
                    answer(1, truth(p.traps));
                    p.traps = term == atom(TRUE);
                    break;
                case EXIT_SELF:
                    tell(AN_EXIT, NONE, term);
                    break;
                case THROW:
                    tell(A_THROW, NONE, term);
                    break;
                case TELL_ERROR:
                    tell(AN_ERROR, NONE, term);
                    break;
                case REF:
                    answer(0, Terms.make(Terms.REFERENCE, world.references));
                    world.references++;
                    break;
                case NOW:
                    answer(0, Terms.make(Terms.NUMBER, world.time));
                    break;
                default:
                    wrong(BADARG);
                    break;
            }
        }

        private void test(int id) {
            long term = frames.below(0);
            int tag = Terms.tag(term);
            switch (id) {
                case IS_NUMBER:
                    answer(1, truth(tag == Terms.NUMBER));
                    break;
                case IS_ATOM:
                    answer(1, truth(tag == Terms.ATOM));
                    break;
                case IS_LIST:
                    answer(1, truth(tag == Terms.NIL || tag == Terms.PAIR));
                    break;
                case IS_TUPLE:
                    answer(1, truth(tag == Terms.TUPLE));
                    break;
                case IS_FUN:
                    answer(1, truth(tag == Terms.FUN));
                    break;
                case IS_PROCESS:
                    answer(1, truth(tag == Terms.PROCESS));
                    break;
                case IS_REF:
                    answer(1, truth(tag == Terms.REFERENCE));
                    break;
                default:
                    part(id, term, tag);
                    break;
            }
        }

        /** hd, tl, length, element and size. */
        private void part(int id, long term, int tag) {
            int start = (int) term;
            if (id == LENGTH) {
                int count = terms.listLength(p.cells, term);
                if (count == NONE) {
                    wrong(BADARG);
                } else {
                    answer(1, Terms.make(Terms.NUMBER, count));
                }
                return;
            }
            if (tag != (id == HD || id == TL ? Terms.PAIR : Terms.TUPLE)) {
                wrong(BADARG);
                return;
            }
            if (id == HD || id == TL) {
                answer(1, p.cells[id == HD ? start : start + 1]);
                return;
            }
            int count = (int) p.cells[start];
            if (id == SIZE) {
                answer(1, Terms.make(Terms.NUMBER, count));
                return;
            }
            long which = frames.below(1);
            if (Terms.tag(which) != Terms.NUMBER || (int) which < 1 || (int) which > count) {
                wrong(BADARG);
                return;
            }
            answer(2, p.cells[start + (int) which]);
        }
    }
}
