/** Promises 1 to 3 and 7 to 14, each by hand: ordinary calls, the edges that the document names, and wrong calls. */
public final class PromisesTest {
    private static final int LEAST = -2147483648;
    private static final int GREATEST = 2147483647;
    /** 1 0 22 21 0 20 1, told, for ever. */
    private static final int[] COUNTING = {11, 5, 20, 1, 1, 0, 22, 21, 0, 20, 1, 7, 21, 0, 0, 0};
    /** f calls itself with one less, and tells on the way back. */
    private static final int[] GOING_DOWN = {10, 0, 1, 3, 21, 8, 8, 0, 23, 21, 8, 20, 1, 0, 7, 21, 8, 0, 11, 8, 0, 21, 0, 0};

    public static void main(String[] args) {
        newObject();
        init();
        feed();
        start();
        run();
        runEnds();
        interpret();
        interpretEnds();
        numbers();
        logic();
        maps();
        variables();
        goneOver();
        answers();
        mapAsked();
        counts();
        heapEdges();
        Check.finish();
    }

    private static void newObject() {
        MapMachine x = new MapMachine();
        Check.due("count(0)", x.count(0), 0);
        Check.due("count(1)", x.count(1), 0);
        Check.due("count(2)", x.count(2), 0);
        Check.due("count(3)", x.count(3), 0);
        Check.due("count(4)", x.count(4), 0);
        Check.due("count(5)", x.count(5), 0);
        Check.due("count(6)", x.count(6), MapMachine.NONE);
        Check.due("count(7)", x.count(7), MapMachine.NOT_READY);
        Check.due("outSize()", x.outSize(), 0);
        Check.due("out(0)", x.out(0), 0);
        Check.due("place()", x.place(), MapMachine.NONE);
        Check.due("code(0)", x.code(0), MapMachine.NONE);
        Check.due("start", x.start(0), MapMachine.NOT_READY);
        Check.due("run", x.run(1), MapMachine.NOT_READY);
        Check.due("interpret", x.interpret(0, 1), MapMachine.NOT_READY);
        Check.due("compile", x.compile(), MapMachine.WRONG);
        firstSeedAndRoom();
    }

    /** Puts keys 0 .. n - 1 into map 0, n being the argument; variable 1 is the next one. */
    private static final int[] FILLING = {11, 5, 27, 21, 1, 21, 0,
        2, 0, 42, 40, 0, 21, 1, 21, 1, 1, 1, 22, 21, 1, 20, 1, 0, 0};

    private static int filledTill(MapMachine x) {
        Feed.add(x, FILLING);
        x.compile();
        x.start(1000);
        x.run(5000);
        Check.due("filling ends", x.run(5000), MapMachine.OUT_OF_HEAP);
        return x.variable(1);
    }

    private static void firstSeedAndRoom() {
        MapMachine plain = new MapMachine();
        int keys = filledTill(plain);
        MapMachine same = new MapMachine();
        same.init(0, 300);
        Check.due("keys in ROOM 300", filledTill(same), keys);
        Check.due("top", same.map(0, 3, 0), plain.map(0, 3, 0));
        Check.due("live", same.count(3), plain.count(3));
        Check.due("live is what the map has", plain.count(3), keys);
        Check.holds("hardly more than ROOM less a path fit", keys > 270 && keys < 300);
        MapMachine other = new MapMachine();
        other.init(0, 250);
        Check.holds("less in less ROOM", filledTill(other) < 250);
        other.init(0, 400);
        Check.holds("more in more ROOM", filledTill(other) > 370);
    }

    private static void init() {
        MapMachine x = Feed.compiled(COUNTING);
        x.start(5);
        Check.due("run", x.run(50), MapMachine.OUT_OF_FUEL);
        int told = x.outSize();
        for (int room : new int[] {0, -1, 401, LEAST, GREATEST}) {
            Check.due("init(7, " + room + ")", x.init(7, room), MapMachine.BAD);
        }
        Check.due("nothing is done", x.outSize(), told);
        Check.due("nothing is done", x.count(7), MapMachine.OUT_OF_FUEL);
        Check.due("nothing is done", x.count(0), COUNTING.length);
        Check.due("init(7, 400)", x.init(7, 400), 0);
        for (int what = 0; what < 6; what++) {
            Check.due("count(" + what + ") after init", x.count(what), 0);
        }
        Check.due("count(6) after init", x.count(6), MapMachine.NONE);
        Check.due("count(7) after init", x.count(7), MapMachine.NOT_READY);
        Check.due("outSize() after init", x.outSize(), 0);
        Check.due("out(0) after init", x.out(0), 0);
        Check.due("variable(0) after init", x.variable(0), 0);
        Check.due("start after init", x.start(0), MapMachine.NOT_READY);
        Check.due("init(7, 1)", x.init(7, 1), 0);
        seeds();
    }

    private static long rank(int key, int seed) {
        int x = key ^ seed;
        x = (x ^ (x >>> 16)) * 0x7feb352d;
        x = (x ^ (x >>> 15)) * 0x846ca68b;
        return (x ^ (x >>> 16)) & 0xffffffffL;
    }

    private static void seeds() {
        for (int seed : new int[] {0, 1, -1, 77, LEAST, GREATEST, 123456789}) {
            MapMachine x = new MapMachine();
            x.init(seed, 300);
            Feed.add(x, FILLING);
            x.compile();
            x.start(40);
            Check.due("run", x.run(5000), MapMachine.DONE);
            int top = 0;
            for (int key = 1; key < 40; key++) {
                top = rank(key, seed) > rank(top, seed) ? key : top;
            }
            Check.due("top with seed " + seed, x.map(0, 3, 0), top);
            Check.due("keys", x.map(0, 0, 0), 40);
            Check.due("live", x.count(3), 40);
        }
    }

    private static void feed() {
        MapMachine x = new MapMachine();
        for (int i = 1; i <= 700; i++) {
            Check.due("feed", x.feed(i), i);
        }
        Check.due("feed the 701st", x.feed(0), MapMachine.FULL);
        Check.due("count(0)", x.count(0), 700);
        MapMachine y = Feed.compiled(11, 2, 0, 42, 41, 20, 3, 20, 4, 2, 4, 42, 41, 20, 3, 20, 4, 1, 1, 20, 9, 7, 20, 8, 0);
        y.start(6);
        y.run(100);
        Check.due("live with MAIN'S own", y.count(3), 2);
        Check.due("feed", y.feed(0), 26);
        Check.due("count(1) when a token came", y.count(1), 0);
        Check.due("code(0) when a token came", y.code(0), MapMachine.NONE);
        Check.due("start when a token came", y.start(0), MapMachine.NOT_READY);
        Check.due("run when a token came", y.run(1), MapMachine.NOT_READY);
        Check.due("interpret when a token came", y.interpret(0, 1), MapMachine.NOT_READY);
        Check.due("count(6) when a token came", y.count(6), MapMachine.NONE);
        Check.due("count(7) when a token came", y.count(7), MapMachine.NOT_READY);
        Check.due("count(3) when a token came", y.count(3), 1);
        Check.due("told stays", y.out(0), 8);
        Check.due("told stays", y.outSize(), 1);
        Check.due("variables stay", y.variable(0), 6);
        Check.due("variables stay", y.variable(1), 9);
        Check.due("maps stay", y.map(0, 2, 0), 4);
    }

    private static void start() {
        MapMachine x = Feed.compiled(11, 7, 21, 0, 1, 3, 20, 5, 2, 3, 42, 41, 21, 0, 20, 1, 0);
        Check.due("start(LEAST)", x.start(LEAST), 0);
        Check.due("variable(0)", x.variable(0), LEAST);
        Check.due("count(7)", x.count(7), MapMachine.OUT_OF_FUEL);
        Check.due("run", x.run(100), MapMachine.DONE);
        Check.due("out(0)", x.out(0), LEAST);
        Check.due("key", x.map(3, 1, 0), LEAST);
        Check.due("start(7)", x.start(7), 0);
        Check.due("outSize()", x.outSize(), 0);
        Check.due("variable(0)", x.variable(0), 7);
        Check.due("variable(3)", x.variable(3), 0);
        Check.due("keys", x.map(3, 0, 0), 0);
        Check.due("count(2)", x.count(2), 0);
        Check.due("count(3)", x.count(3), 0);
        Check.due("count(4)", x.count(4), 0);
        Check.due("count(6)", x.count(6), 0);
        Check.due("compile() leaves no run", x.compile(), 16);
        Check.due("run", x.run(1), MapMachine.NOT_READY);
    }

    private static void run() {
        // words: 0: 1 1, 13 13, 2 0, 1 1, 4, 3 0, 2 0, 15, 12 0, 16: 0; a round has 9 instructions
        MapMachine x = Feed.compiled(COUNTING);
        for (int n : new int[] {0, -1, 5001, LEAST, GREATEST}) {
            Check.due("run(" + n + ") is BAD before it is NOT_READY", x.run(n), MapMachine.BAD);
        }
        Check.due("run(5000)", x.run(5000), MapMachine.NOT_READY);
        x.start(10);
        for (int n : new int[] {0, -1, 5001, LEAST, GREATEST}) {
            Check.due("run(" + n + ")", x.run(n), MapMachine.BAD);
        }
        Check.due("run(1)", x.run(1), MapMachine.OUT_OF_FUEL);
        Check.due("count(2)", x.count(2), 1);
        Check.due("count(6)", x.count(6), 2);
        Check.due("run(6)", x.run(6), MapMachine.OUT_OF_FUEL);
        Check.due("outSize() before it is told", x.outSize(), 0);
        Check.due("variable(0)", x.variable(0), 11);
        Check.due("run(1)", x.run(1), MapMachine.OUT_OF_FUEL);
        Check.due("outSize()", x.outSize(), 1);
        Check.due("out(0)", x.out(0), 11);
        Check.due("run(1)", x.run(1), MapMachine.OUT_OF_FUEL);
        Check.due("count(6) at the loop's begin", x.count(6), 0);
        Check.due("run(2691)", x.run(2691), MapMachine.OUT_OF_FUEL);
        Check.due("outSize()", x.outSize(), 300);
        Check.due("out(299)", x.out(299), 310);
        Check.due("out(300)", x.out(300), 0);
        Check.due("out(-1)", x.out(-1), 0);
        Check.due("run(5000)", x.run(5000), MapMachine.OUT_FULL);
        Check.due("count(2)", x.count(2), 2708);
        Check.due("count(6) behind 15", x.count(6), 14);
        Check.due("variable(0)", x.variable(0), 311);
        Check.due("outSize()", x.outSize(), 300);
        Check.due("run(1) at its end", x.run(1), MapMachine.OUT_FULL);
        Check.due("count(2) at its end", x.count(2), 2708);
        Check.due("run(0) at its end", x.run(0), MapMachine.BAD);
    }

    private static void runEnds() {
        MapMachine x = Feed.compiled(11, 0);
        x.start(0);
        Check.due("DONE with the last step granted", x.run(1), MapMachine.DONE);
        Check.due("count(2)", x.count(2), 1);
        Check.due("count(6)", x.count(6), 1);
        Check.due("count(7)", x.count(7), MapMachine.DONE);
        for (int divide = 25; divide <= 26; divide++) {
            MapMachine y = Feed.compiled(11, 7, divide, 20, 1, 21, 0, 0);
            y.start(0);
            Check.due("by 0", y.run(10), MapMachine.DIV_ZERO);
            Check.due("count(2)", y.count(2), 3);
            Check.due("count(6)", y.count(6), 5);
            Check.due("count(7)", y.count(7), MapMachine.DIV_ZERO);
            Check.due("outSize()", y.outSize(), 0);
        }
        MapMachine z = Feed.compiled(GOING_DOWN);
        z.start(23);
        Check.due("24 calls", z.run(5000), MapMachine.DONE);
        Check.due("told", z.outSize(), 24);
        Check.due("the innermost first", z.out(0), 0);
        Check.due("the outermost last", z.out(23), 23);
        Check.due("count(5)", z.count(5), 0);
        z.start(24);
        Check.due("25 calls", z.run(5000), MapMachine.STACK_FULL);
        Check.due("count(5)", z.count(5), 24);
        Check.due("count(6) behind 16 0", z.count(6), 11);
        Check.due("outSize()", z.outSize(), 0);
        z.start(24);
        z.run(30);
        Check.holds("calls are under way", z.count(5) > 1);
        z.compile();
        Check.due("count(5) without a run", z.count(5), 0);
    }

    private static void interpret() {
        // a round: 5's E, 1 22 21 20, 7 21; once: 5
        MapMachine x = Feed.compiled(COUNTING);
        for (int n : new int[] {0, -1, 5001, LEAST, GREATEST}) {
            Check.due("interpret(1, " + n + ")", x.interpret(1, n), MapMachine.BAD);
        }
        x.start(3);
        x.run(30);
        Check.due("interpret(1, 0) does nothing", x.interpret(1, 0), MapMachine.BAD);
        Check.due("the run is there", x.count(7), MapMachine.OUT_OF_FUEL);
        Check.due("interpret(10, 8)", x.interpret(10, 8), MapMachine.OUT_OF_FUEL);
        Check.due("count(2)", x.count(2), 8);
        Check.due("outSize()", x.outSize(), 1);
        Check.due("out(0)", x.out(0), 11);
        Check.due("no run", x.run(1), MapMachine.NOT_READY);
        Check.due("count(6)", x.count(6), MapMachine.NONE);
        Check.due("count(7)", x.count(7), MapMachine.NOT_READY);
        Check.due("interpret(10, 7)", x.interpret(10, 7), MapMachine.OUT_OF_FUEL);
        Check.due("7 is begun, its E is not", x.outSize(), 0);
        Check.due("variable(0)", x.variable(0), 11);
        Check.due("interpret(10, 5)", x.interpret(10, 5), MapMachine.OUT_OF_FUEL);
        Check.due("the sum is not done", x.variable(0), 10);
        Check.due("interpret(10, 1)", x.interpret(10, 1), MapMachine.OUT_OF_FUEL);
        Check.due("count(2)", x.count(2), 1);
        Check.due("interpret(-5, 5000)", x.interpret(-5, 5000), MapMachine.OUT_FULL);
        Check.due("count(2)", x.count(2), 1 + 301 * 7);
        Check.due("out(299)", x.out(299), 295);
        Check.due("start", x.start(2), 0);
        Check.due("nothing is told then", x.outSize(), 0);
        Check.due("count(2) of the run", x.count(2), 0);
        fewSteps();
    }

    private static void fewSteps() {
        MapMachine none = Feed.compiled(11, 0);
        Check.due("nothing to do", none.interpret(0, 1), MapMachine.DONE);
        Check.due("no step", none.count(2), 0);
        MapMachine one = Feed.compiled(11, 7, 20, 3, 0);
        Check.due("two steps, one granted", one.interpret(0, 1), MapMachine.OUT_OF_FUEL);
        Check.due("two steps, two granted", one.interpret(0, 2), MapMachine.DONE);
        // 2 42 42 41 20 20 20 20: 8 steps; 6: 1; two keys with 7 21 each: 6
        MapMachine keys = Feed.compiled(11, 2, 0, 42, 42, 41, 20, 5, 20, 6, 20, 7, 20, 8, 6, 0, 1, 2, 7, 21, 1, 0, 0);
        Check.due("all steps", keys.interpret(0, 15), MapMachine.DONE);
        Check.due("count(2)", keys.count(2), 15);
        Check.due("one less", keys.interpret(0, 14), MapMachine.OUT_OF_FUEL);
        Check.due("the second key is there", keys.variable(1), 7);
        Check.due("its value too", keys.variable(2), 8);
        Check.due("told", keys.outSize(), 1);
        Check.due("till the second key", keys.interpret(0, 12), MapMachine.OUT_OF_FUEL);
        Check.due("the second key is not come to", keys.variable(1), 5);
        Check.due("till the first key", keys.interpret(0, 9), MapMachine.OUT_OF_FUEL);
        Check.due("no key is come to", keys.variable(1), 0);
        Check.due("the first key", keys.interpret(0, 10), MapMachine.OUT_OF_FUEL);
        Check.due("it is come to", keys.variable(1), 5);
        Check.due("its value too", keys.variable(2), 6);
    }

    private static void interpretEnds() {
        MapMachine z = Feed.compiled(GOING_DOWN);
        Check.due("24 calls", z.interpret(23, 5000), MapMachine.DONE);
        Check.due("told", z.outSize(), 24);
        Check.due("the outermost last", z.out(23), 23);
        Check.due("25 calls", z.interpret(24, 5000), MapMachine.STACK_FULL);
        Check.due("nothing told", z.outSize(), 0);
        Check.due("count(5)", z.count(5), 0);
        MapMachine y = Feed.compiled(11, 7, 25, 20, 1, 21, 0, 0);
        Check.due("by 0", y.interpret(0, 4), MapMachine.DIV_ZERO);
        Check.due("count(2)", y.count(2), 4);
        Check.due("by 1", y.interpret(1, 4), MapMachine.DONE);
        Check.due("out(0)", y.out(0), 1);
    }

    /** What the expression tells, both ways. */
    private static void tells(int want, int... expression) {
        MapMachine x = Feed.compiled(Feed.joined(new int[] {11, 7}, expression, new int[] {0}));
        StringBuilder name = new StringBuilder();
        for (int token : expression) {
            name.append(token).append(' ');
        }
        x.start(3);
        Check.due("run of " + name, x.run(5000), MapMachine.DONE);
        Check.due("told by " + name, x.out(0), want);
        Check.due("interpret of " + name, x.interpret(3, 5000), MapMachine.DONE);
        Check.due("told straight by " + name, x.out(0), want);
        Check.due("one number of " + name, x.outSize(), 1);
    }

    private static void numbers() {
        tells(LEAST, 22, 20, GREATEST, 20, 1);
        tells(GREATEST, 23, 20, LEAST, 20, 1);
        tells(-2, 24, 20, GREATEST, 20, 2);
        tells(1, 24, 20, GREATEST, 20, GREATEST);
        tells(-3, 25, 20, -7, 20, 2);
        tells(-1, 26, 20, -7, 20, 2);
        tells(1, 26, 20, 7, 20, -2);
        tells(-3, 25, 20, 7, 20, -2);
        tells(LEAST, 25, 20, LEAST, 20, -1);
        tells(0, 26, 20, LEAST, 20, -1);
        tells(1, 27, 20, LEAST, 20, GREATEST);
        tells(0, 27, 20, 5, 20, 5);
        tells(0, 27, 20, 6, 20, 5);
        tells(1, 28, 20, 5, 20, 5);
        tells(0, 28, 20, 5, 20, 6);
        tells(1, 29, 20, 0);
        tells(0, 29, 20, -9);
        tells(4, 23, 20, 7, 21, 0);
        tells(0, 21, 13);
    }

    private static void logic() {
        tells(0, 30, 20, 0, 25, 20, 1, 20, 0);
        tells(1, 30, 20, 5, 20, -6);
        tells(0, 30, 20, 5, 20, 0);
        tells(1, 31, 20, 5, 25, 20, 1, 20, 0);
        tells(1, 31, 20, 0, 20, -6);
        tells(0, 31, 20, 0, 20, 0);
        tells(7, 22, 30, 20, 1, 20, 1, 22, 31, 20, 0, 20, 0, 20, 6);
    }

    private static void maps() {
        tells(0, 32, 41, 20, 1);
        tells(9, 32, 42, 41, 20, 1, 20, 9, 20, 1);
        tells(8, 32, 42, 42, 41, 20, 1, 20, 9, 20, 1, 20, 8, 20, 1);
        tells(0, 32, 42, 41, 20, 1, 20, 9, 20, 2);
        tells(1, 33, 42, 41, 20, 1, 20, 0, 20, 1);
        tells(0, 33, 42, 41, 20, 1, 20, 0, 20, 0);
        tells(0, 34, 41);
        tells(2, 34, 42, 42, 41, 20, 1, 20, 0, 20, 2, 20, 0);
        tells(1, 34, 42, 42, 41, 20, 1, 20, 0, 20, 1, 20, 5);
        tells(-4, 35, 41, 20, 9, 20, -4);
        tells(7, 35, 42, 41, 20, 7, 20, 0, 20, 7, 20, -4);
        tells(-4, 35, 42, 41, 20, 7, 20, 0, 20, 6, 20, -4);
        tells(7, 35, 42, 42, 41, 20, 7, 20, 0, 20, 9, 20, 0, 20, 8, 20, -4);
        tells(LEAST, 35, 42, 42, 41, 20, LEAST, 20, 0, 20, 9, 20, 0, 20, 8, 20, -4);
        tells(1, 34, 43, 42, 42, 41, 20, 1, 20, 0, 20, 2, 20, 0, 20, 1);
        tells(1, 34, 43, 42, 41, 20, 1, 20, 0, 20, 3);
        // 44: the value of the second for a key of both
        tells(6, 32, 44, 42, 41, 20, 1, 20, 5, 42, 41, 20, 1, 20, 6, 20, 1);
        tells(2, 34, 44, 42, 41, 20, 1, 20, 5, 42, 41, 20, 2, 20, 6);
        tells(5, 32, 44, 42, 41, 20, 1, 20, 5, 42, 41, 20, 2, 20, 6, 20, 1);
        tells(6, 32, 44, 42, 41, 20, 1, 20, 5, 42, 41, 20, 2, 20, 6, 20, 2);
    }

    private static void variables() {
        // f (2 parameters) tells 8, 9, 10, how many keys its 4 has, then spoils them; MAIN'S own stay
        MapMachine x = Feed.compiled(10, 6, 2, 7, 21, 8, 7, 21, 9, 7, 21, 10, 7, 34, 40, 4, 1, 10, 20, 99, 1, 7, 20, 70,
            2, 4, 42, 41, 20, 1, 20, 1, 0,
            11, 1, 8, 20, 50, 1, 10, 20, 51, 2, 4, 42, 42, 41, 20, 1, 20, 1, 20, 2, 20, 2,
            8, 6, 20, 3, 20, 4, 8, 6, 20, 5, 20, 6, 7, 21, 8, 7, 21, 10, 7, 34, 40, 4, 7, 34, 40, 5, 0);
        int[] want = {3, 4, 0, 0, 5, 6, 0, 0, 50, 51, 2, 0};
        x.start(0);
        Check.due("run", x.run(5000), MapMachine.DONE);
        tellsAll(x, want);
        Check.due("variable(7)", x.variable(7), 70);
        Check.due("variable(8)", x.variable(8), 0);
        Check.due("variable(-1)", x.variable(-1), 0);
        Check.due("variable(GREATEST)", x.variable(GREATEST), 0);
        Check.due("count(3)", x.count(3), 2);
        Check.due("interpret", x.interpret(0, 5000), MapMachine.DONE);
        tellsAll(x, want);
        Check.due("variable(7)", x.variable(7), 70);
    }

    private static void tellsAll(MapMachine x, int... want) {
        Check.due("outSize()", x.outSize(), want.length);
        for (int i = 0; i < want.length; i++) {
            Check.due("out(" + i + ")", x.out(i), want[i]);
        }
    }

    private static void goneOver() {
        // keys -1, LEAST, GREATEST, 3; the map is changed while it is gone over, and v and w may be one
        int[] program = {11, 2, 0, 42, 42, 42, 42, 41, 20, -1, 20, 1, 20, LEAST, 20, 2, 20, GREATEST, 20, 3, 20, 3, 20, 4,
            6, 0, 1, 2, 7, 21, 1, 7, 21, 2, 2, 0, 43, 40, 0, 20, 3, 0, 6, 0, 5, 5, 7, 21, 5, 0, 6, 1, 6, 6, 7, 20, 1, 0, 0};
        int[] want = {LEAST, 2, -1, 1, 3, 4, GREATEST, 3, 2, 1, 3};
        MapMachine x = Feed.compiled(program);
        x.start(0);
        Check.due("run", x.run(5000), MapMachine.DONE);
        tellsAll(x, want);
        Check.due("interpret", x.interpret(0, 5000), MapMachine.DONE);
        tellsAll(x, want);
        // a function that answers from within 6 within 6, used in an expression
        MapMachine y = Feed.compiled(10, 1, 0, 6, 0, 8, 9, 6, 0, 10, 11, 9, 21, 11, 0, 0, 0,
            11, 2, 0, 42, 41, 20, 3, 20, 33, 7, 22, 36, 1, 36, 1, 2, 1, 42, 40, 0, 36, 1, 36, 1, 0);
        y.start(0);
        Check.due("run", y.run(5000), MapMachine.DONE);
        tellsAll(y, 66);
        Check.due("map(1, 2, 1)", y.map(1, 2, 1), 33);
        Check.due("interpret", y.interpret(0, 5000), MapMachine.DONE);
        tellsAll(y, 66);
        Check.due("map(1, 2, 1)", y.map(1, 2, 1), 33);
    }

    private static void answers() {
        // without a 9 a function answers 0; with one what is behind it is not done; in MAIN it is the end
        MapMachine x = Feed.compiled(10, 0, 0, 1, 2, 20, 5, 0, 10, 1, 1, 9, 24, 21, 8, 20, 2, 7, 20, 1, 0,
            11, 7, 36, 0, 7, 36, 1, 20, 21, 8, 1, 20, 3, 3, 21, 0, 9, 36, 1, 20, 4, 4, 7, 20, 7, 0, 7, 20, 8, 0);
        for (int way = 0; way < 2; way++) {
            Check.due("done", way == 0 ? x.start(1) + x.run(5000) : x.interpret(1, 5000), MapMachine.DONE);
            tellsAll(x, 0, 42);
            Check.due("variable(2)", x.variable(2), 5);
            Check.due("done", way == 0 ? x.start(0) + x.run(5000) : x.interpret(0, 5000), MapMachine.DONE);
            tellsAll(x, 0, 42, 7, 8);
        }
    }

    private static void mapAsked() {
        MapMachine x = Feed.compiled(11, 2, 3, 42, 42, 42, 41, 20, 5, 20, 50, 20, -7, 20, 70, 20, 6, 20, 60, 0);
        x.start(0);
        x.run(100);
        Check.due("map(3, 0, 99)", x.map(3, 0, 99), 3);
        int[] keys = {-7, 5, 6};
        int[] values = {70, 50, 60};
        for (int i = 0; i < 3; i++) {
            Check.due("key " + i, x.map(3, 1, i), keys[i]);
            Check.due("value " + i, x.map(3, 2, i), values[i]);
        }
        for (int i : new int[] {-1, 3, LEAST, GREATEST}) {
            Check.due("key " + i, x.map(3, 1, i), 0);
            Check.due("value " + i, x.map(3, 2, i), 0);
        }
        int top = -7;
        for (int key : keys) {
            top = rank(key, 0) > rank(top, 0) ? key : top;
        }
        Check.due("top", x.map(3, 3, -5), top);
        Check.due("top of none", x.map(0, 3, 0), 0);
        Check.due("keys of none", x.map(0, 0, 0), 0);
        Check.due("key of none", x.map(0, 1, 0), 0);
        for (int bad : new int[] {-1, 4, LEAST, GREATEST}) {
            Check.due("map " + bad, x.map(bad, 0, 0), MapMachine.BAD);
            Check.due("what " + bad, x.map(3, bad, 0), MapMachine.BAD);
        }
    }

    private static void counts() {
        MapMachine x = Feed.compiled(11, 2, 0, 42, 41, 20, 5, 20, 50, 0);
        for (int bad : new int[] {-1, 8, LEAST, GREATEST}) {
            Check.due("count(" + bad + ")", x.count(bad), MapMachine.BAD);
        }
        Check.due("count(0)", x.count(0), 10);
        Check.due("count(1)", x.count(1), 9);
        x.start(0);
        x.run(3);
        Check.due("count(3) before PUT", x.count(3), 0);
        Check.due("count(4) before PUT", x.count(4), 0);
        x.run(1);
        Check.due("count(3) of a map that is not used yet", x.count(3), 1);
        Check.due("count(4)", x.count(4), 1);
        Check.due("map(0, 0, 0)", x.map(0, 0, 0), 0);
        x.run(1);
        Check.due("map(0, 0, 0)", x.map(0, 0, 0), 1);
        Check.due("count(6)", x.count(6), 8);
        Check.due("count(7)", x.count(7), MapMachine.OUT_OF_FUEL);
        x.compile();
        Check.due("count(4) since start()", x.count(4), 1);
        Check.due("count(3) without a run", x.count(3), 1);
    }

    /** In ROOM 2 a map of one key can be put once more, for the old one is live then; in ROOM 1 it can't. */
    private static void heapEdges() {
        int[] program = {11, 2, 0, 42, 41, 20, 5, 20, 50, 2, 0, 42, 40, 0, 20, 5, 20, 51, 2, 0, 43, 40, 0, 20, 9, 2, 0, 43, 40, 0, 20, 5, 0};
        for (int way = 0; way < 2; way++) {
            for (int room = 1; room <= 2; room++) {
                MapMachine x = new MapMachine();
                x.init(0, room);
                Feed.add(x, program);
                x.compile();
                int end = way == 0 ? x.start(0) + x.run(5000) : x.interpret(0, 5000);
                Check.due("end in ROOM " + room, end, room == 1 ? MapMachine.OUT_OF_HEAP : MapMachine.DONE);
                Check.due("keys in ROOM " + room, x.map(0, 0, 0), room == 1 ? 1 : 0);
                Check.due("value in ROOM " + room, x.map(0, 2, 0), room == 1 ? 50 : 0);
                Check.due("live in ROOM " + room, x.count(3), room == 1 ? 1 : 0);
                Check.due("most made in ROOM " + room, x.count(4), 1);
                if (way == 0) {
                    Check.due("next word", x.count(6), room == 1 ? 15 : 32);
                    Check.due("run stays", x.run(7), end);
                }
            }
        }
    }
}
