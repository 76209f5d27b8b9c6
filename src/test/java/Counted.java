/** An object whose calls are counted: a test that needs more of them than the document promises is wrong itself. */
final class Counted {
    /** "An object is used for at most 512 calls after it has been made; what later calls answer is free." */
    static final int MOST = 512;

    private final MailHouse house = new MailHouse();
    private int calls;

    /** How many calls are left. */
    int left() {
        return MOST - calls;
    }

    private MailHouse one() {
        calls++;
        if (calls > MOST) {
            throw new UnsupportedOperationException("a test makes more than 512 calls on one object");
        }
        return house;
    }

    int feed(int a, int b, int c, int d, int e) {
        return one().feed(a, b, c, d, e);
    }

    int back(int n) {
        return one().back(n);
    }

    int read() {
        return one().read();
    }

    int count(int what) {
        return one().count(what);
    }

    int function(int f, int what) {
        return one().function(f, what);
    }

    int letter(int a, int k) {
        return one().letter(a, k);
    }

    void begin(int f) {
        one().begin(f);
    }

    int go(int p, int n) {
        return one().go(p, n);
    }

    int clock(int t) {
        return one().clock(t);
    }

    void send(int p, int sort, int v) {
        one().send(p, sort, v);
    }

    int process(int p, int what) {
        return one().process(p, what);
    }

    int frame(int p, int i, int what) {
        return one().frame(p, i, what);
    }

    int link(int p, int i) {
        return one().link(p, i);
    }

    int show(int p, int what, int i) {
        return one().show(p, what, i);
    }

    int shown(int k) {
        return one().shown(k);
    }

    int printed(int i, int k) {
        return one().printed(i, k);
    }
}
