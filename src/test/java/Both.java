/** A MapMachine and a Model that get the same calls; each answer of the one is due from the other. */
final class Both {
    final MapMachine machine = new MapMachine();
    final Model model = new Model();
    private final String name;

    Both(String name) {
        this.name = name;
    }

    private int due(String call, int got, int want) {
        Check.due(got == want ? "" : name + ": " + call, got, want);
        return want;
    }

    int init(int seed, int room) {
        return due("init(" + seed + ", " + room + ")", machine.init(seed, room), model.init(seed, room));
    }

    void feed(int... tokens) {
        for (int token : tokens) {
            due("feed(" + token + ")", machine.feed(token), model.feed(token));
        }
    }

    int compile() {
        return due("compile()", machine.compile(), model.compile());
    }

    int start(int arg) {
        return due("start(" + arg + ")", machine.start(arg), model.start(arg));
    }

    int run(int n) {
        return due("run(" + n + ")", machine.run(n), model.run(n));
    }

    int interpret(int arg, int n) {
        return due("interpret(" + arg + ", " + n + ")", machine.interpret(arg, n), model.interpret(arg, n));
    }

    void askCode() {
        due("place()", machine.place(), model.place());
        int words = model.count(1);
        for (int i = -1; i <= words; i++) {
            due("code(" + i + ")", machine.code(i), model.code(i));
        }
    }

    /** One question by its number: 1, 2 a map, 3 a number told and a variable, 4 a word and a count. */
    void askOne(int question, int a, int b, int c) {
        switch (question) {
            case 1: due("map(" + a + ", " + b + ", " + c + ")", machine.map(a, b, c), model.map(a, b, c)); break;
            case 2: due("map(" + a % 4 + ", " + b % 4 + ", " + c + ")", machine.map(a % 4, b % 4, c), model.map(a % 4, b % 4, c)); break;
            case 3:
                due("out(" + a + ")", machine.out(a), model.out(a));
                due("variable(" + a + ")", machine.variable(a), model.variable(a));
                break;
            default:
                due("code(" + a + ")", machine.code(a), model.code(a));
                due("count(" + a + ")", machine.count(a), model.count(a));
                due("place()", machine.place(), model.place());
                break;
        }
    }

    void askCounts() {
        for (int what = -1; what <= 8; what++) {
            due("count(" + what + ")", machine.count(what), model.count(what));
        }
    }

    void askAll() {
        askCounts();
        int size = due("outSize()", machine.outSize(), model.outSize());
        for (int i = -1; i <= size; i++) {
            due("out(" + i + ")", machine.out(i), model.out(i));
        }
        for (int v = -1; v <= 14; v++) {
            due("variable(" + v + ")", machine.variable(v), model.variable(v));
        }
        for (int m = -1; m <= 4; m++) {
            askMap(m);
        }
    }

    private void askMap(int m) {
        int size = due("map(" + m + ", 0, 0)", machine.map(m, 0, 0), model.map(m, 0, 0));
        for (int what = -1; what <= 4; what++) {
            for (int i = -1; i <= size; i++) {
                due("map(" + m + ", " + what + ", " + i + ")", machine.map(m, what, i), model.map(m, what, i));
            }
        }
    }
}
