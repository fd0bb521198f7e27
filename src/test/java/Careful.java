/**
 * A MapMachine that is used no longer than the document says: what its 513th call answers is free, so
 * a test that goes so far is wrong itself.
 */
final class Careful {
    private static final int MOST_CALLS = 512;

    private final MapMachine machine = new MapMachine();
    private int calls;

    private MapMachine called() {
        calls++;
        if (calls > MOST_CALLS) {
            throw new IllegalStateException("the test calls more than " + MOST_CALLS + " times");
        }
        return machine;
    }

    int calls() {
        return calls;
    }

    int init(int seed, int room) {
        return called().init(seed, room);
    }

    int feed(int token) {
        return called().feed(token);
    }

    int compile() {
        return called().compile();
    }

    int place() {
        return called().place();
    }

    int code(int i) {
        return called().code(i);
    }

    int start(int arg) {
        return called().start(arg);
    }

    int run(int n) {
        return called().run(n);
    }

    int interpret(int arg, int n) {
        return called().interpret(arg, n);
    }

    int outSize() {
        return called().outSize();
    }

    int out(int i) {
        return called().out(i);
    }

    int variable(int v) {
        return called().variable(v);
    }

    int map(int m, int what, int i) {
        return called().map(m, what, i);
    }

    int count(int what) {
        return called().count(what);
    }

    /** A new one with that program, which is compiled and has to be without a fault. */
    static Careful with(int... tokens) {
        Careful x = new Careful();
        x.load(tokens);
        return x;
    }

    void load(int... tokens) {
        for (int token : tokens) {
            feed(token);
        }
        Check.holds("the program compiles", compile() > 0);
    }
}
