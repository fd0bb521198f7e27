import java.util.Arrays;

/** The promises 1 to 14, and STEPS: a test for each sentence that names an edge or a refused call. */
public final class CallsEdgesTest {
    private static final int LEAST = -2147483648;
    private static final int GREATEST = 2147483647;
    private static final int[] WRONG_STEPS = {LEAST, -5000, -1, 0, 5001, 5002, GREATEST};
    private static final int[] WRONG_ROOMS = {LEAST, -1, 0, 401, 402, GREATEST};
    private static final int[] FOR_EVER = {11, 5, 20, 1, 0, 0};
    /** Variable 1 is arg; tells 5; map 0 is {7: 70, 1: 10}, MAIN'S map 4 {3: 30}; MAIN'S 8 is 50; then for ever. */
    private static final int[] BUSY = {11, 1, 1, 21, 0, 7, 20, 5, 2, 0, 42, 42, 41, 20, 7, 20, 70, 20, 1, 20, 10,
        2, 4, 42, 41, 20, 3, 20, 30, 1, 8, 20, 50, 5, 20, 1, 0, 0};

    public static void main(String[] args) {
        newObject();
        initRefused();
        initRefusedLeavesSeedAndRoom();
        initAsAtFirst();
        initSeeds();
        feedAnyToken();
        feedEndsTheRun();
        feedFull();
        compileEndsTheRun();
        compileOnceMore();
        placeNone();
        codeNone();
        startNotReady();
        startBeginsAnew();
        runAsked();
        runNotReady();
        runSteps();
        runTillTheLastStep();
        interpretAsked();
        interpretNotReady();
        interpretTillTheLastStep();
        interpretLeavesNoRun();
        interpretStaysTillStart();
        stepsOfEach();
        keysAreSteps();
        outEdges();
        variableEdges();
        mapEdges();
        mapOfNone();
        countRefused();
        countTokensAndWords();
        countSteps();
        countLive();
        countMost();
        countCalls();
        countNextWord();
        countEnd();
        lastCall();
        Check.finish();
    }

    private static int[] row(int... row) {
        return row;
    }

    private static Careful fed(int... tokens) {
        Careful x = new Careful();
        for (int token : tokens) {
            x.feed(token);
        }
        return x;
    }

    /** All that can be asked, at the places where there is something to be seen: 53 calls. */
    private static int[] seen(Careful x) {
        int[] all = new int[53];
        int n = 0;
        for (int what = 0; what < 8; what++) {
            all[n++] = x.count(what);
        }
        for (int v = 0; v < 8; v++) {
            all[n++] = x.variable(v);
        }
        for (int m = 0; m < 4; m++) {
            for (int what = 0; what < 4; what++) {
                all[n++] = x.map(m, what, 0);
                all[n++] = what == 1 || what == 2 ? x.map(m, what, 1) : 0;
            }
        }
        all[n++] = x.outSize();
        all[n++] = x.out(0);
        all[n++] = x.place();
        all[n++] = x.code(0);
        all[n++] = x.code(1);
        return all;
    }

    private static void same(String sentence, int[] got, int[] want) {
        Check.holds(sentence + ": " + Arrays.toString(got) + " is " + Arrays.toString(want), Arrays.equals(got, want));
    }

    private static Careful busy(int arg) {
        Careful x = Careful.with(BUSY);
        x.start(arg);
        Check.due("busy", x.run(100), MapMachine.OUT_OF_FUEL);
        return x;
    }

    private static void isBusy(String sentence, Careful x, int arg) {
        Check.due(sentence + ": outSize()", x.outSize(), 1);
        Check.due(sentence + ": out(0)", x.out(0), 5);
        Check.due(sentence + ": variable(0)", x.variable(0), arg);
        Check.due(sentence + ": variable(1)", x.variable(1), arg);
        Check.due(sentence + ": map(0, 0, 0)", x.map(0, 0, 0), 2);
        Check.due(sentence + ": map(0, 2, 0)", x.map(0, 2, 0), 10);
        Check.due(sentence + ": map(0, 1, 1)", x.map(0, 1, 1), 7);
        Check.due(sentence + ": map(0, 3, 0)", x.map(0, 3, 0), 7);
    }

    private static void noRun(String sentence, Careful x) {
        Check.due(sentence + ": run(1)", x.run(1), MapMachine.NOT_READY);
        Check.due(sentence + ": run(5000)", x.run(5000), MapMachine.NOT_READY);
        Check.due(sentence + ": count(5)", x.count(5), 0);
        Check.due(sentence + ": count(6)", x.count(6), MapMachine.NONE);
        Check.due(sentence + ": count(7)", x.count(7), MapMachine.NOT_READY);
    }

    private static void nothingCompiled(String sentence, Careful x) {
        Check.due(sentence + ": start(5)", x.start(5), MapMachine.NOT_READY);
        Check.due(sentence + ": interpret(5, 1)", x.interpret(5, 1), MapMachine.NOT_READY);
        Check.due(sentence + ": interpret(5, 5000)", x.interpret(5, 5000), MapMachine.NOT_READY);
        Check.due(sentence + ": code(0)", x.code(0), MapMachine.NONE);
        Check.due(sentence + ": count(1)", x.count(1), 0);
        noRun(sentence, x);
    }

    // ---- Promise 1

    /** "Seed 0, ROOM 300, no program, nothing told." (ROOM 300: HeapEdgesTest.) */
    private static void newObject() {
        Careful x = new Careful();
        int[] first = new int[53];
        first[6] = MapMachine.NONE;
        first[7] = MapMachine.NOT_READY;
        first[50] = MapMachine.NONE;
        first[51] = MapMachine.NONE;
        first[52] = MapMachine.NONE;
        same("a new object", seen(x), first);
        nothingCompiled("a new object", x);
        Check.due("no program: compile()", x.compile(), MapMachine.WRONG);
        Check.due("no program: place()", x.place(), 0);
        nothingCompiled("no program", x);
        Careful seeded = new Careful();
        Check.due("init(0, 300)", seeded.init(0, 300), 0);
        seeded.load(BUSY);
        seeded.start(4);
        seeded.run(100);
        same("seed 0, ROOM 300", seen(busy(4)), seen(seeded));
        isBusy("seed 0", busy(4), 4);
    }

    // ---- Promise 2

    /** "BAD: another ROOM (nothing is done)." */
    private static void initRefused() {
        for (int room : WRONG_ROOMS) {
            Careful x = busy(6);
            int[] before = seen(x);
            Check.due("init(7, " + room + ")", x.init(7, room), MapMachine.BAD);
            same("init(7, " + room + ") does nothing", seen(x), before);
            Check.due("the run goes on", x.run(10), MapMachine.OUT_OF_FUEL);
            Check.due("the run goes on: count(2)", x.count(2), 110);
            Check.due("the next token", x.feed(0), BUSY.length + 1);
        }
        Careful faulty = fed(11, 99);
        Check.due("a fault", faulty.compile(), MapMachine.WRONG);
        Check.due("init(1, 0)", faulty.init(1, 0), MapMachine.BAD);
        Check.due("its place stays", faulty.place(), 1);
    }

    private static void initRefusedLeavesSeedAndRoom() {
        for (int room : WRONG_ROOMS) {
            Careful x = new Careful();
            Check.due("init(0, 3)", x.init(0, 3), 0);
            // with seed 0 the key 7 is above 1; with seed 4 they have the ranks of 3 and 5, and 1 would be above
            Check.due("init(4, " + room + ")", x.init(4, room), MapMachine.BAD);
            x.load(11, 2, 0, 42, 42, 41, 20, 1, 20, 1, 20, 7, 20, 7, 7, 20, 1, 2, 1, 42, 41, 20, 3, 20, 3, 2, 2, 42, 41, 20, 4, 20, 4, 0);
            x.start(0);
            Check.due("ROOM is still 3", x.run(5000), MapMachine.OUT_OF_HEAP);
            Check.due("ROOM is still 3: outSize()", x.outSize(), 1);
            Check.due("ROOM is still 3: count(3)", x.count(3), 3);
            Check.due("the seed is still 0", x.map(0, 3, 0), 7);
        }
    }

    /** "All is as at first, with that seed and ROOM (1 .. 400): 0." */
    private static void initAsAtFirst() {
        int[] first = seen(new Careful());
        for (int room : row(1, 2, 300, 399, 400)) {
            Careful x = busy(6);
            Check.due("init(7, " + room + ")", x.init(7, room), 0);
            same("init() from within a run", seen(x), first);
            nothingCompiled("init()", x);
            Check.due("the first token", x.feed(11), 1);
        }
        Careful faulty = fed(10, 0, 0, 0, 99);
        Check.due("a fault", faulty.compile(), MapMachine.WRONG);
        Check.due("init()", faulty.init(0, 300), 0);
        same("init() behind a fault", seen(faulty), first);
        Careful straight = Careful.with(BUSY);
        Check.due("interpret", straight.interpret(3, 200), MapMachine.OUT_OF_FUEL);
        Check.due("init()", straight.init(0, 300), 0);
        same("init() behind interpret()", seen(straight), first);
        // from within calls, with maps that wait and are gone over
        Careful deep = Careful.with(10, 0, 1, 6, 0, 9, 10, 7, 32, 40, 0, 36, 0, 21, 8, 0, 0, 11, 2, 0, 42, 41, 20, 1, 20, 1, 8, 0, 20, 5, 0);
        deep.start(0);
        Check.due("STACK_FULL", deep.run(5000), MapMachine.STACK_FULL);
        Check.due("init()", deep.init(0, 300), 0);
        same("init() within 24 calls", seen(deep), first);
        deep.load(BUSY);
        deep.start(6);
        deep.run(100);
        same("and all goes as in a new object", seen(deep), seen(busy(6)));
    }

    private static void initSeeds() {
        for (int seed : row(LEAST, -1, 0, 1, 5, GREATEST)) {
            Careful x = new Careful();
            Check.due("init(" + seed + ", 300)", x.init(seed, 300), 0);
            // with seed 0 the key 7 is above 1
            x.load(11, 2, 0, 42, 42, 41, 20, 7 ^ seed, 20, 0, 20, 1 ^ seed, 20, 0, 0);
            x.start(0);
            Check.due("run", x.run(100), MapMachine.DONE);
            Check.due("the top with seed " + seed, x.map(0, 3, 0), 7 ^ seed);
        }
    }

    // ---- Promise 3

    /** "A TOKEN more: how many there are" */
    private static void feedAnyToken() {
        Careful x = new Careful();
        int n = 0;
        for (int token : row(LEAST, -1, 0, 11, 45, GREATEST)) {
            n++;
            Check.due("feed(" + token + ")", x.feed(token), n);
            Check.due("count(0)", x.count(0), n);
        }
        Check.due("init", x.init(0, 300), 0);
        Check.due("feed(11)", x.feed(11), 1);
    }

    /** "what was compiled is so no more, and there is no run (what was told, variables and maps stay)" */
    private static void feedEndsTheRun() {
        Careful x = busy(6);
        Check.due("count(3) with MAIN'S own", x.count(3), 3);
        Check.due("feed", x.feed(0), BUSY.length + 1);
        Check.due("count(3) without a run", x.count(3), 2);
        nothingCompiled("feed()", x);
        isBusy("what was told, variables and maps stay", x, 6);
        Careful straight = Careful.with(BUSY);
        straight.interpret(6, 100);
        Check.due("feed", straight.feed(0), BUSY.length + 1);
        nothingCompiled("feed() behind interpret()", straight);
        isBusy("feed() behind interpret()", straight, 6);
        Careful calls = Careful.with(10, 0, 0, 8, 0, 0, 11, 8, 0, 0);
        calls.start(0);
        calls.run(5);
        Check.due("calls under way", calls.count(5), 5);
        calls.feed(0);
        noRun("feed() within calls", calls);
    }

    /** "FULL: there are 700." It can only be met behind the 512th call, where answers are free: this is how it is done here. */
    private static void feedFull() {
        MapMachine x = new MapMachine();
        int[] program = Feed.joined(row(11), Feed.repeated(173, 1, 0, 20, 1), row(1, 0, 29, 29, 20, 1, 0));
        Check.due("tokens", program.length, 700);
        for (int i = 0; i < 700; i++) {
            Check.due("feed " + i, x.feed(program[i]), i + 1);
        }
        Check.due("compile() of 700 tokens", x.compile(), 699);
        Check.due("start", x.start(0), 0);
        Check.due("run(3)", x.run(3), MapMachine.OUT_OF_FUEL);
        Check.due("the 701st token", x.feed(0), MapMachine.FULL);
        Check.due("and once more", x.feed(20), MapMachine.FULL);
        Check.due("count(0)", x.count(0), 700);
        Check.due("it is compiled still", x.count(1), 699);
        Check.due("the run is there still", x.run(5000), MapMachine.DONE);
        Check.due("init", x.init(0, 300), 0);
        for (int i = 0; i < 700; i++) {
            Check.due("feed " + i, x.feed(i == 0 ? 11 : 0), i + 1);
        }
        Check.due("compile()", x.compile(), MapMachine.WRONG);
        Check.due("the 701st token", x.feed(0), MapMachine.FULL);
        Check.due("no token came since", x.place(), 2);
    }

    // ---- Promise 4

    /** "There is no run then." */
    private static void compileEndsTheRun() {
        Careful x = busy(6);
        int words = x.count(1);
        Check.due("compile()", x.compile(), words);
        noRun("compile()", x);
        Check.due("count(3) without a run", x.count(3), 2);
        isBusy("what was told, variables and maps stay", x, 6);
        Check.due("start", x.start(2), 0);
        Check.due("run", x.run(100), MapMachine.OUT_OF_FUEL);
        isBusy("it can be started", x, 2);
        Careful ended = Careful.with(11, 7, 20, 5, 0);
        ended.start(0);
        Check.due("run", ended.run(100), MapMachine.DONE);
        Check.due("compile()", ended.compile(), 4);
        noRun("compile() behind the end", ended);
        Careful calls = Careful.with(10, 0, 0, 8, 0, 0, 11, 8, 0, 0);
        calls.start(0);
        calls.run(5);
        Check.due("calls under way", calls.count(5), 5);
        calls.compile();
        noRun("compile() within calls", calls);
    }

    /** "how many words; or its fault (then nothing is compiled)" */
    private static void compileOnceMore() {
        Careful x = fed(11, 0, 0);
        Check.due("a fault", x.compile(), MapMachine.WRONG);
        nothingCompiled("a fault", x);
        Check.due("the same fault", x.compile(), MapMachine.WRONG);
        Check.due("its place", x.place(), 2);
        Careful good = fed(11, 0);
        Check.due("words", good.compile(), 1);
        Check.due("words", good.compile(), 1);
        Check.due("words", good.count(1), 1);
        good.feed(0);
        Check.due("a fault behind a program without one", good.compile(), MapMachine.WRONG);
        nothingCompiled("a fault behind a program without one", good);
        // a function is compiled as a function, once more too: 9 is its answer, and no end
        Careful again = Careful.with(10, 0, 0, 9, 20, 5, 0, 11, 7, 36, 0, 9, 20, 1, 0);
        for (int i = 0; i < 3; i++) {
            Check.due("words", again.compile(), 14);
            Check.due("9 in a function", again.code(2), 17);
            Check.due("9 in MAIN", again.code(11), 18);
            again.start(0);
            Check.due("run", again.run(100), MapMachine.DONE);
            Check.due("told", again.out(0), 5);
        }
        Careful later = fed(11);
        Check.due("too early", later.compile(), MapMachine.WRONG);
        later.feed(0);
        Check.due("now it is whole", later.compile(), 1);
        Check.due("now it is whole", later.place(), MapMachine.NONE);
    }

    // ---- Promises 5 and 6

    /** "NONE if it had none (CODE_FULL, too), there was none, or a token came since." */
    private static void placeNone() {
        Careful x = new Careful();
        Check.due("there was none", x.place(), MapMachine.NONE);
        x.feed(99);
        Check.due("there was none", x.place(), MapMachine.NONE);
        Check.due("compile()", x.compile(), MapMachine.WRONG);
        Check.due("the fault's place", x.place(), 0);
        Check.due("asked once more", x.place(), 0);
        x.start(0);
        x.run(1);
        x.interpret(0, 1);
        Check.due("other calls leave it", x.place(), 0);
        x.feed(99);
        Check.due("a token came since", x.place(), MapMachine.NONE);
        Check.due("compile()", x.compile(), MapMachine.WRONG);
        Check.due("the fault's place", x.place(), 0);
        Check.due("init()", x.init(0, 1), 0);
        Check.due("there was none since init()", x.place(), MapMachine.NONE);
        x.load(11, 0);
        Check.due("it had none", x.place(), MapMachine.NONE);
    }

    /** "Word i of the code. NONE if there is none (or nothing is compiled)." */
    private static void codeNone() {
        Careful x = fed(11, 7, 20, 5, 0);
        Check.due("nothing is compiled", x.code(0), MapMachine.NONE);
        Check.due("compile()", x.compile(), 4);
        int[] words = {1, 5, 15, 0};
        for (int i = 0; i < 4; i++) {
            Check.due("code(" + i + ")", x.code(i), words[i]);
        }
        for (int i : row(LEAST, -2, -1, 4, 5, 1499, 1500, GREATEST)) {
            Check.due("code(" + i + ")", x.code(i), MapMachine.NONE);
        }
        x.feed(0);
        Check.due("a token came", x.code(0), MapMachine.NONE);
        // the words of a longer program are not those of a shorter one
        Check.due("init", x.init(0, 300), 0);
        x.load(11, 0);
        Check.due("code(0)", x.code(0), 0);
        Check.due("code(1)", x.code(1), MapMachine.NONE);
    }

    // ---- Promise 7

    /** "NOT_READY: nothing is compiled." */
    private static void startNotReady() {
        Careful x = busy(6);
        x.feed(0);
        Check.due("start(9)", x.start(9), MapMachine.NOT_READY);
        isBusy("start() that is NOT_READY does nothing", x, 6);
        noRun("start() that is NOT_READY", x);
        Check.due("compile()", x.compile(), MapMachine.WRONG);
        Check.due("start(9)", x.start(9), MapMachine.NOT_READY);
        isBusy("start() that is NOT_READY does nothing", x, 6);
        Check.due("count(2) is as it was", x.count(2), 100);
    }

    /** "A run begins: all variables are 0, maps without keys, nothing is told; variable 0 is arg." */
    private static void startBeginsAnew() {
        for (int arg : row(LEAST, -1, 0, 1, GREATEST)) {
            Careful x = busy(6);
            Check.due("start(" + arg + ")", x.start(arg), 0);
            int[] begun = new int[53];
            begun[0] = BUSY.length;
            begun[1] = x.count(1);
            begun[7] = MapMachine.OUT_OF_FUEL;
            begun[8] = arg;
            begun[50] = MapMachine.NONE;
            begun[51] = 2;
            same("start(" + arg + ")", seen(x), begun);
            Check.due("run", x.run(100), MapMachine.OUT_OF_FUEL);
            isBusy("the run that was begun", x, arg);
        }
        // all variables and maps, each set by the run before
        int[] setting = {};
        for (int v = 0; v < 14; v++) {
            setting = Feed.joined(setting, row(1, v, 20, 100 + v));
        }
        for (int m = 0; m < 6; m++) {
            setting = Feed.joined(setting, row(2, m, 42, 41, 20, m, 20, m));
        }
        int[] telling = {};
        for (int v = 1; v < 14; v++) {
            telling = Feed.joined(telling, row(7, 21, v));
        }
        for (int m = 0; m < 6; m++) {
            telling = Feed.joined(telling, row(7, 34, 40, m));
        }
        Edge edge = Edge.of("all is 0 at first").program(Feed.joined(row(11), telling, setting, row(0)));
        for (int i = 0; i < 3; i++) {
            edge.done().tells(0, 0, 0, 0, 0, 0, 0, 0, 0, 0, 0, 0, 0, 0, 0, 0, 0, 0, 0);
        }
    }

    // ---- Promise 8

    /** "BAD: n (asked first)." */
    private static void runAsked() {
        Careful none = new Careful();
        Careful compiled = Careful.with(FOR_EVER);
        Careful begun = Careful.with(FOR_EVER);
        begun.start(0);
        Careful ended = Careful.with(11, 0);
        ended.start(0);
        ended.run(1);
        for (int n : WRONG_STEPS) {
            Check.due("run(" + n + ") with no program", none.run(n), MapMachine.BAD);
            Check.due("run(" + n + ") with no run", compiled.run(n), MapMachine.BAD);
            Check.due("run(" + n + ")", begun.run(n), MapMachine.BAD);
            Check.due("run(" + n + ") does nothing", begun.count(2), 0);
            Check.due("run(" + n + ") does nothing", begun.count(6), 0);
            Check.due("run(" + n + ") at the end", ended.run(n), MapMachine.BAD);
            Check.due("run(" + n + ") leaves the end", ended.count(7), MapMachine.DONE);
        }
    }

    /** "NOT_READY: there is none" */
    private static void runNotReady() {
        noRun("with no program", new Careful());
        noRun("not compiled", fed(FOR_EVER));
        noRun("not started", Careful.with(FOR_EVER));
        Careful x = Careful.with(FOR_EVER);
        x.interpret(0, 10);
        noRun("behind interpret()", x);
        Check.due("nothing is done", x.count(2), 10);
    }

    /** "n STEPS (1 .. 5000) at most: .. OUT_OF_FUEL, if it has none yet." */
    private static void runSteps() {
        // 0: 1 1, 2: 13 6, 4: 12 0, 6: 0
        Careful x = Careful.with(FOR_EVER);
        x.start(0);
        int[] next = {2, 4, 0, 2, 4, 0, 2};
        for (int i = 0; i < next.length; i++) {
            Check.due("run(1)", x.run(1), MapMachine.OUT_OF_FUEL);
            Check.due("count(2)", x.count(2), i + 1);
            Check.due("count(6)", x.count(6), next[i]);
        }
        Check.due("run(5000)", x.run(5000), MapMachine.OUT_OF_FUEL);
        Check.due("count(2)", x.count(2), 5007);
        Check.due("count(6)", x.count(6), 0);
        Check.due("run(4999)", x.run(4999), MapMachine.OUT_OF_FUEL);
        Check.due("count(2)", x.count(2), 10006);
        Check.due("run(2)", x.run(2), MapMachine.OUT_OF_FUEL);
        Check.due("count(2)", x.count(2), 10008);
        Check.due("count(6)", x.count(6), 0);
    }

    /** n times 1 1 20 5, then variable 0 is counted down: 2 n + 7 arg + 3 words' steps, 2 n + 5 arg + 2 tokens' steps. */
    private static int[] countingDown(int n) {
        return Feed.joined(row(11), Feed.repeated(n, 1, 1, 20, 5), row(5, 21, 0, 1, 0, 23, 21, 0, 20, 1, 0, 0));
    }

    private static void runTillTheLastStep() {
        Careful x = Careful.with(countingDown(3));
        x.start(713);
        Check.due("the 5000th step is the last", x.run(5000), MapMachine.DONE);
        Check.due("count(2)", x.count(2), 5000);
        x.start(713);
        Check.due("one step less", x.run(4999), MapMachine.OUT_OF_FUEL);
        Check.due("count(2)", x.count(2), 4999);
        Check.due("and the last one", x.run(1), MapMachine.DONE);
        Check.due("count(2)", x.count(2), 5000);
        x.start(714);
        Check.due("more than 5000 steps", x.run(5000), MapMachine.OUT_OF_FUEL);
        Check.due("more than 5000 steps", x.run(7), MapMachine.DONE);
        Check.due("count(2)", x.count(2), 5007);
        Careful one = Careful.with(11, 0);
        one.start(0);
        Check.due("one step", one.run(1), MapMachine.DONE);
        // an end other than DONE, with the last step granted
        Careful zero = Careful.with(11, 7, 26, 20, 1, 20, 0, 0);
        zero.start(0);
        Check.due("before the division", zero.run(2), MapMachine.OUT_OF_FUEL);
        Check.due("the division", zero.run(1), MapMachine.DIV_ZERO);
        Check.due("count(2)", zero.count(2), 3);
    }

    // ---- Promise 9

    private static void interpretAsked() {
        Careful none = new Careful();
        Careful fed = fed(FOR_EVER);
        Careful x = busy(6);
        int[] before = seen(x);
        for (int n : WRONG_STEPS) {
            Check.due("interpret(1, " + n + ") with no program", none.interpret(1, n), MapMachine.BAD);
            Check.due("interpret(1, " + n + ") not compiled", fed.interpret(1, n), MapMachine.BAD);
            Check.due("interpret(1, " + n + ")", x.interpret(1, n), MapMachine.BAD);
        }
        same("interpret() that is BAD does nothing", seen(x), before);
        Check.due("the run goes on", x.run(1), MapMachine.OUT_OF_FUEL);
        Check.due("the run goes on", x.count(2), 101);
    }

    /** "NOT_READY: nothing is compiled" */
    private static void interpretNotReady() {
        Careful x = busy(6);
        x.feed(99);
        Check.due("interpret(9, 5000)", x.interpret(9, 5000), MapMachine.NOT_READY);
        isBusy("interpret() that is NOT_READY does nothing", x, 6);
        Check.due("compile()", x.compile(), MapMachine.WRONG);
        Check.due("interpret(9, 1)", x.interpret(9, 1), MapMachine.NOT_READY);
        isBusy("interpret() that is NOT_READY does nothing", x, 6);
        Check.due("count(2) is as it was", x.count(2), 100);
        Check.due("count(4) is as it was", x.count(4), 2);
    }

    /** "n STEPS (1 .. 5000) at most", "one more than granted is not begun" */
    private static void interpretTillTheLastStep() {
        Careful x = Careful.with(countingDown(4));
        Check.due("the 5000th step is the last", x.interpret(998, 5000), MapMachine.DONE);
        Check.due("count(2)", x.count(2), 5000);
        Check.due("variable(0)", x.variable(0), 0);
        Check.due("one step less", x.interpret(998, 4999), MapMachine.OUT_OF_FUEL);
        Check.due("count(2)", x.count(2), 4999);
        Check.due("variable(0)", x.variable(0), 0);
        Check.due("more than 5000 steps", x.interpret(999, 5000), MapMachine.OUT_OF_FUEL);
        Check.due("count(2)", x.count(2), 5000);
        Check.due("variable(0)", x.variable(0), 1);
        Check.due("one step", x.interpret(7, 1), MapMachine.OUT_OF_FUEL);
        Check.due("count(2)", x.count(2), 1);
        Check.due("variable(0)", x.variable(0), 7);
        Check.due("variable(1)", x.variable(1), 0);
        Check.due("two steps", x.interpret(7, 2), MapMachine.OUT_OF_FUEL);
        Check.due("variable(1)", x.variable(1), 5);
        Careful none = Careful.with(11, 0);
        Check.due("no step is needed", none.interpret(0, 1), MapMachine.DONE);
        Check.due("no step is done", none.count(2), 0);
    }

    /** "there is no run" */
    private static void interpretLeavesNoRun() {
        Careful x = busy(6);
        Check.due("interpret", x.interpret(2, 100), MapMachine.OUT_OF_FUEL);
        noRun("interpret() behind a run", x);
        isBusy("what is told, variables and maps are its then", x, 2);
        Check.due("count(2)", x.count(2), 100);
        Check.due("count(3): maps 0 .. 3 alone", x.count(3), 2);
        Check.due("it is compiled still", x.start(3), 0);
        Careful full = Careful.with(10, 0, 0, 8, 0, 0, 11, 8, 0, 0);
        Check.due("STACK_FULL", full.interpret(0, 5000), MapMachine.STACK_FULL);
        noRun("interpret() that ended in STACK_FULL", full);
        Check.due("out of fuel within calls", full.interpret(0, 7), MapMachine.OUT_OF_FUEL);
        noRun("interpret() within calls", full);
    }

    /** "What is told, variables and maps are its then, till the next start()" */
    private static void interpretStaysTillStart() {
        Careful x = Careful.with(BUSY);
        Check.due("interpret", x.interpret(6, 100), MapMachine.OUT_OF_FUEL);
        isBusy("behind interpret()", x, 6);
        x.run(1);
        x.compile();
        isBusy("run() and compile() leave it", x, 6);
        Check.due("start", x.start(2), 0);
        Check.due("till the next start()", x.outSize(), 0);
        Check.due("till the next start()", x.variable(1), 0);
        Check.due("till the next start()", x.map(0, 0, 0), 0);
        Check.due("beginning as with start(arg)", x.interpret(4, 3), MapMachine.OUT_OF_FUEL);
        Check.due("beginning as with start(arg)", x.outSize(), 0);
        Check.due("beginning as with start(arg)", x.variable(0), 4);
        Check.due("beginning as with start(arg)", x.map(0, 0, 0), 0);
    }

    // ---- STEPS

    /** "An instruction is a STEP of a run. Done straight from tokens, each S, E, M that is begun is a STEP" */
    private static void steps(String what, int byWords, int straight, int... tokens) {
        Edge.of("steps of " + what).program(tokens).done().steps(byWords, straight);
        Careful x = Careful.with(tokens);
        for (int n = 1; n < straight; n++) {
            Check.due("steps of " + what + ", " + n + " granted", x.interpret(0, n), MapMachine.OUT_OF_FUEL);
            Check.due("steps of " + what + ", " + n + " done", x.count(2), n);
        }
        Check.due("steps of " + what + ", all granted", x.interpret(0, Math.max(1, straight)), MapMachine.DONE);
        x.start(0);
        for (int n = 1; n < byWords; n++) {
            Check.due("steps of " + what + ", run(1)", x.run(1), MapMachine.OUT_OF_FUEL);
            Check.due("steps of " + what + ", " + n + " done", x.count(2), n);
        }
        Check.due("steps of " + what + ", the last run(1)", x.run(1), MapMachine.DONE);
    }

    private static void stepsOfEach() {
        steps("MAIN alone", 1, 0, 11, 0);
        steps("1", 3, 2, 11, 1, 0, 20, 1, 0);
        steps("2", 3, 2, 11, 2, 0, 41, 0);
        steps("3, the first", 6, 4, 11, 3, 20, 1, 7, 20, 1, 4, 7, 20, 2, 7, 20, 3, 0, 0);
        steps("3, the second", 7, 6, 11, 3, 20, 0, 7, 20, 1, 4, 7, 20, 2, 7, 20, 3, 0, 0);
        steps("3 without 4", 3, 2, 11, 3, 20, 0, 7, 20, 1, 0, 0);
        steps("5, not once", 3, 2, 11, 5, 20, 0, 7, 20, 1, 0, 0);
        steps("6 of none", 3, 1, 11, 6, 0, 1, 2, 7, 20, 1, 0, 0);
        steps("8", 8, 4, 10, 0, 1, 7, 21, 8, 0, 11, 8, 0, 20, 1, 0);
        steps("9 in MAIN", 3, 2, 11, 9, 20, 1, 0);
        steps("36", 6, 5, 10, 0, 1, 9, 21, 8, 0, 11, 7, 36, 0, 20, 1, 0);
        for (int token = 22; token <= 28; token++) {
            steps("" + token, 5, 4, 11, 7, token, 20, 1, 20, 2, 0);
        }
        steps("29", 4, 3, 11, 7, 29, 20, 1, 0);
        steps("30, both", 8, 4, 11, 7, 30, 20, 1, 20, 2, 0);
        steps("30, the first", 5, 3, 11, 7, 30, 20, 0, 20, 2, 0);
        steps("31, both", 8, 4, 11, 7, 31, 20, 0, 20, 2, 0);
        steps("31, the first", 5, 3, 11, 7, 31, 20, 1, 20, 2, 0);
        steps("32", 5, 4, 11, 7, 32, 41, 20, 1, 0);
        steps("33", 5, 4, 11, 7, 33, 41, 20, 1, 0);
        steps("34", 4, 3, 11, 7, 34, 40, 0, 0);
        steps("35", 6, 5, 11, 7, 35, 41, 20, 1, 20, 2, 0);
        steps("42", 6, 5, 11, 2, 0, 42, 41, 20, 1, 20, 2, 0);
        steps("43", 5, 4, 11, 2, 0, 43, 41, 20, 1, 0);
        steps("44", 5, 4, 11, 2, 0, 44, 41, 41, 0);
    }

    /** ".. and each key that 6 comes to" */
    private static void keysAreSteps() {
        int[] twoKeys = {11, 2, 0, 42, 42, 41, 20, 5, 20, 6, 20, 7, 20, 8};
        // words: 8 for the map; 19, then 29 12 for each key, and 29; 0. Tokens: 8 for the map, 6, and two keys
        steps("6 with no S", 15, 11, Feed.joined(twoKeys, row(6, 0, 1, 2, 0, 0)));
        steps("6 with S", 19, 15, Feed.joined(twoKeys, row(6, 0, 1, 2, 7, 21, 1, 0, 0)));
        Careful x = Careful.with(Feed.joined(twoKeys, row(6, 0, 1, 2, 7, 21, 1, 0, 0)));
        int[] granted = {8, 9, 10, 11, 12, 13, 14, 15};
        int[] key = {0, 0, 5, 5, 5, 7, 7, 7};
        int[] told = {0, 0, 0, 0, 1, 1, 1, 2};
        for (int i = 0; i < granted.length; i++) {
            Check.due("interpret(0, " + granted[i] + ")", x.interpret(0, granted[i]), i == 7 ? MapMachine.DONE : MapMachine.OUT_OF_FUEL);
            Check.due("the key that it came to", x.variable(1), key[i]);
            Check.due("its value", x.variable(2), key[i] == 0 ? 0 : key[i] + 1);
            Check.due("told", x.outSize(), told[i]);
            Check.due("keys", x.map(0, 0, 0), 2);
        }
    }

    // ---- Promises 10 to 13

    /** "How many numbers were told." "Number i that was told; 0 without one." */
    private static void outEdges() {
        Careful x = Careful.with(11, 5, 21, 0, 7, 21, 0, 1, 0, 22, 21, 0, 20, 1, 0, 7, 20, 9, 0);
        Check.due("outSize() before any", x.outSize(), 0);
        Check.due("out(0) before any", x.out(0), 0);
        x.start(-299);
        Check.due("outSize() at the start", x.outSize(), 0);
        Check.due("300 numbers", x.run(5000), MapMachine.DONE);
        Check.due("outSize()", x.outSize(), 300);
        Check.due("out(0)", x.out(0), -299);
        Check.due("out(298)", x.out(298), -1);
        Check.due("out(299)", x.out(299), 9);
        for (int i : row(LEAST, -1, 300, 301, GREATEST)) {
            Check.due("out(" + i + ")", x.out(i), 0);
        }
        x.start(-2);
        Check.due("outSize() at the next start", x.outSize(), 0);
        Check.due("out(0) at the next start", x.out(0), 0);
        Check.due("run", x.run(5000), MapMachine.DONE);
        Check.due("outSize()", x.outSize(), 3);
        Check.due("out(2)", x.out(2), 9);
        Check.due("out(3), which was told before", x.out(3), 0);
    }

    /** "Variable 0 .. 7. 0 if there is none such." */
    private static void variableEdges() {
        int[] setting = {};
        for (int v = 0; v < 14; v++) {
            setting = Feed.joined(setting, row(1, v, 20, 100 + v));
        }
        Careful x = Careful.with(Feed.joined(row(11), setting, row(5, 20, 1, 0, 0)));
        for (int way = 0; way < 2; way++) {
            int end = way == 0 ? x.start(5) + x.run(100) : x.interpret(5, 100);
            Check.due("it goes on", end, MapMachine.OUT_OF_FUEL);
            for (int v = 0; v < 8; v++) {
                Check.due("variable(" + v + ")", x.variable(v), 100 + v);
            }
            for (int v : row(LEAST, -8, -1, 8, 9, 13, 14, GREATEST)) {
                Check.due("variable(" + v + ")", x.variable(v), 0);
            }
        }
    }

    /** "how many keys (what = 0), its i-th key, the least first (1), and its value (2), 0 without one; .. BAD: another map or what." */
    private static void mapEdges() {
        int[] setting = {};
        for (int m = 0; m < 6; m++) {
            setting = Feed.joined(setting, row(2, m, 42, 42, 42, 41, 20, GREATEST, 20, 30 + m, 20, LEAST, 20, 10 + m, 20, 4, 20, 20 + m));
        }
        Careful x = Careful.with(Feed.joined(row(11), setting, row(5, 20, 1, 0, 0)));
        x.start(0);
        Check.due("it goes on", x.run(300), MapMachine.OUT_OF_FUEL);
        int[] keys = {LEAST, 4, GREATEST};
        for (int m = 0; m < 4; m++) {
            for (int i : row(LEAST, -1, 0, 3, GREATEST)) {
                Check.due("keys", x.map(m, 0, i), 3);
                Check.due("the top", x.map(m, 3, i), 4);
            }
            for (int i = 0; i < 3; i++) {
                Check.due("key " + i, x.map(m, 1, i), keys[i]);
                Check.due("value " + i, x.map(m, 2, i), 10 * (i + 1) + m);
            }
            for (int i : row(LEAST, -1, 3, 4, GREATEST)) {
                Check.due("no key " + i, x.map(m, 1, i), 0);
                Check.due("no value " + i, x.map(m, 2, i), 0);
            }
            for (int what : row(LEAST, -1, 4, 5, GREATEST)) {
                Check.due("map(" + m + ", " + what + ", 0)", x.map(m, what, 0), MapMachine.BAD);
            }
        }
        for (int m : row(LEAST, -1, 4, 5, 6, GREATEST)) {
            for (int what : row(-1, 0, 1, 2, 3, 4)) {
                Check.due("map(" + m + ", " + what + ", 0)", x.map(m, what, 0), MapMachine.BAD);
            }
        }
    }

    private static void mapOfNone() {
        Careful x = new Careful();
        for (int m = 0; m < 4; m++) {
            for (int what = 0; what < 4; what++) {
                for (int i : row(LEAST, -1, 0, 1, GREATEST)) {
                    Check.due("map(" + m + ", " + what + ", " + i + ") of none", x.map(m, what, i), 0);
                }
            }
            Check.due("another what", x.map(m, 4, 0), MapMachine.BAD);
        }
        Check.due("another map", x.map(4, 0, 0), MapMachine.BAD);
        Check.due("another map", x.map(-1, 0, 0), MapMachine.BAD);
        // key 0 and value 0 are not none
        Careful zero = Careful.with(11, 2, 2, 42, 42, 41, 20, 0, 20, 0, 20, 5, 20, 0, 0);
        zero.start(0);
        zero.run(100);
        Check.due("keys", zero.map(2, 0, 0), 2);
        Check.due("key 1", zero.map(2, 1, 1), 5);
        Check.due("the top", zero.map(2, 3, 0), 5);
    }

    // ---- Promise 14

    /** "BAD: another what." */
    private static void countRefused() {
        Careful begun = Careful.with(FOR_EVER);
        begun.start(0);
        for (Careful x : new Careful[] {new Careful(), Careful.with(FOR_EVER), begun}) {
            for (int what : row(LEAST, -8, -1, 8, 9, GREATEST)) {
                Check.due("count(" + what + ")", x.count(what), MapMachine.BAD);
            }
        }
    }

    private static void countTokensAndWords() {
        Careful x = new Careful();
        Check.due("no tokens", x.count(0), 0);
        Check.due("no words", x.count(1), 0);
        x.feed(11);
        x.feed(0);
        Check.due("tokens", x.count(0), 2);
        Check.due("no words", x.count(1), 0);
        x.compile();
        Check.due("tokens", x.count(0), 2);
        Check.due("words", x.count(1), 1);
        x.start(0);
        x.run(1);
        Check.due("words", x.count(1), 1);
        x.feed(0);
        Check.due("tokens", x.count(0), 3);
        Check.due("no words", x.count(1), 0);
        x.compile();
        Check.due("no words with a fault", x.count(1), 0);
    }

    /** "2 STEPS of the run, or of interpret(), so far" */
    private static void countSteps() {
        Careful x = Careful.with(FOR_EVER);
        Check.due("before any", x.count(2), 0);
        x.start(0);
        Check.due("at the start", x.count(2), 0);
        x.run(10);
        x.run(20);
        Check.due("of all run() together", x.count(2), 30);
        x.interpret(0, 7);
        Check.due("of interpret()", x.count(2), 7);
        x.interpret(0, 5);
        Check.due("of the latest interpret()", x.count(2), 5);
        x.start(0);
        Check.due("at the next start", x.count(2), 0);
    }

    /** "how many cells are LIVE (a run at its end has all that it had then; without a run those of maps 0 .. 3 alone)" */
    private static void countLive() {
        int[] program = {10, 0, 0, 2, 4, 42, 41, 20, 1, 20, 1, 7, 32, 42, 41, 20, 2, 20, 2, 25, 20, 1, 21, 0, 0,
            11, 2, 0, 42, 41, 20, 3, 20, 3, 2, 4, 42, 41, 20, 4, 20, 4, 6, 0, 1, 2, 2, 1, 42, 41, 20, 5, 20, 5, 2, 0, 41, 8, 0, 0, 0};
        Careful x = Careful.with(program);
        Check.due("before any", x.count(3), 0);
        x.start(0);
        Check.due("at the start", x.count(3), 0);
        // MAIN'S map 4, map 1, what 6 goes over; the call's map 4, and the one that 32 waits with
        Check.due("DIV_ZERO in a call", x.run(5000), MapMachine.DIV_ZERO);
        Check.due("a run at its end has all that it had then", x.count(3), 5);
        Check.due("once more", x.count(3), 5);
        Check.due("compile()", x.compile() > 0 ? 1 : 0, 1);
        Check.due("without a run", x.count(3), 1);
        Check.due("interpret", x.interpret(0, 5000), MapMachine.DIV_ZERO);
        Check.due("without a run", x.count(3), 1);
        x.start(1);
        Check.due("DONE", x.run(5000), MapMachine.DONE);
        Check.due("MAIN'S map 4 and map 1", x.count(3), 2);
        x.feed(0);
        Check.due("without a run", x.count(3), 1);
        Check.due("init", x.init(0, 300), 0);
        Check.due("behind init()", x.count(3), 0);
    }

    /** "4 the most cells that one PUT, WITHOUT or UNION made since start() or interpret() (0 before any)" */
    private static void countMost() {
        // {2}, then 4 above it: 1 and 2 cells; then {6}: 1
        int[] program = {11, 3, 21, 0, 2, 0, 42, 42, 41, 20, 2, 20, 2, 20, 4, 20, 4, 0, 2, 1, 42, 41, 20, 6, 20, 6, 0};
        Careful x = Careful.with(program);
        Check.due("before any", x.count(4), 0);
        x.start(1);
        Check.due("since start()", x.count(4), 0);
        Check.due("run(6): 2 0, 13, 21, 1 2, 1 2, 22", x.run(6), MapMachine.OUT_OF_FUEL);
        Check.due("one PUT", x.count(4), 1);
        Check.due("run", x.run(5000), MapMachine.DONE);
        Check.due("the most", x.count(4), 2);
        Check.due("compile", x.compile() > 0 ? 1 : 0, 1);
        Check.due("since start(), behind compile()", x.count(4), 2);
        x.start(0);
        Check.due("since the next start()", x.count(4), 0);
        Check.due("run", x.run(5000), MapMachine.DONE);
        Check.due("the most", x.count(4), 1);
        Check.due("interpret", x.interpret(1, 5000), MapMachine.DONE);
        Check.due("since interpret()", x.count(4), 2);
        Check.due("interpret", x.interpret(0, 5000), MapMachine.DONE);
        Check.due("since interpret()", x.count(4), 1);
        Check.due("interpret", x.interpret(0, 2), MapMachine.OUT_OF_FUEL);
        Check.due("since interpret()", x.count(4), 0);
    }

    /** "5 calls under way (0 without a run)" */
    private static void countCalls() {
        // 0: 16 0, 18, 1 0 17 (function 1); before it 1 0 17 (function 0); MAIN: 16 1, 18, 0
        Careful x = Careful.with(10, 0, 0, 0, 10, 1, 0, 8, 0, 0, 11, 8, 1, 0);
        Check.due("before any", x.count(5), 0);
        x.start(0);
        int[] calls = {1, 2, 2, 1, 1, 1, 0, 0, 0};
        int[] next = {3, 0, 2, 5, 6, 8, 11, 12, 13};
        Check.due("at the start", x.count(5), 0);
        Check.due("at the start", x.count(6), 9);
        for (int i = 0; i < calls.length; i++) {
            Check.due("run(1)", x.run(1), i == 8 ? MapMachine.DONE : MapMachine.OUT_OF_FUEL);
            Check.due("count(5) behind step " + i, x.count(5), calls[i]);
            Check.due("count(6) behind step " + i, x.count(6), next[i]);
        }
    }

    /** "6 the run's next word (behind an instruction that ended it, the one behind that), NONE without a run (of interpret(), too)" */
    private static void countNextWord() {
        nextWordAtEnd("0", MapMachine.DONE, 4, 11, 7, 20, 5, 0);
        nextWordAtEnd("9's 0", MapMachine.DONE, 4, 11, 9, 20, 5, 7, 20, 1, 0);
        nextWordAtEnd("7", MapMachine.DIV_ZERO, 5, 11, 7, 25, 20, 5, 20, 0, 0);
        nextWordAtEnd("8", MapMachine.DIV_ZERO, 5, 11, 7, 26, 20, 5, 20, 0, 0);
        nextWordAtEnd("16 f", MapMachine.STACK_FULL, 2, 10, 0, 0, 8, 0, 0, 11, 8, 0, 0);
        nextWordAtEnd("15", MapMachine.OUT_FULL, 7, 11, 5, 20, 1, 7, 20, 1, 0, 0);
        nextWordAtEnd("22", MapMachine.OUT_OF_HEAP, 11, 11, 2, 0, 42, 42, 41, 20, 1, 20, 1, 20, 2, 20, 2, 0);
        Careful x = Careful.with(11, 0);
        Check.due("without a run", x.count(6), MapMachine.NONE);
        x.interpret(0, 1);
        Check.due("of interpret(), too", x.count(6), MapMachine.NONE);
    }

    private static void nextWordAtEnd(String word, int end, int next, int... program) {
        Careful x = new Careful();
        x.init(0, 1);
        x.load(program);
        x.start(0);
        Check.due("the end by " + word, x.run(5000), end);
        Check.due("the word behind " + word, x.count(6), next);
        Check.due("how it ended by " + word, x.count(7), end);
    }

    /** "7 how it ended: OUT_OF_FUEL if it did not yet, NOT_READY without." */
    private static void countEnd() {
        Careful x = Careful.with(11, 7, 20, 5, 0);
        Check.due("without a run", x.count(7), MapMachine.NOT_READY);
        x.start(0);
        Check.due("not yet", x.count(7), MapMachine.OUT_OF_FUEL);
        x.run(2);
        Check.due("not yet", x.count(7), MapMachine.OUT_OF_FUEL);
        x.run(1);
        Check.due("DONE", x.count(7), MapMachine.DONE);
        x.interpret(0, 100);
        Check.due("without a run", x.count(7), MapMachine.NOT_READY);
        x.start(0);
        Check.due("not yet", x.count(7), MapMachine.OUT_OF_FUEL);
        x.feed(0);
        Check.due("without a run", x.count(7), MapMachine.NOT_READY);
    }

    /** "An object is used for at most 512 calls after it has been made": the 512th is answered. */
    private static void lastCall() {
        Careful x = new Careful();
        int[] program = Feed.joined(row(11), Feed.repeated(126, 1, 0, 20, 1), row(0));
        for (int i = 0; i < program.length; i++) {
            Check.due("feed " + i, x.feed(program[i]), i + 1);
        }
        Check.due("compile()", x.compile(), 505);
        Check.due("start(3)", x.start(3), 0);
        Check.due("run(5000)", x.run(5000), MapMachine.DONE);
        Check.due("variable(0)", x.variable(0), 1);
        Check.due("count(2)", x.count(2), 253);
        Check.due("count(6)", x.count(6), 505);
        Check.due("calls", x.calls(), 512);
    }
}
