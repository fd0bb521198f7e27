/**
 * One sentence of the document that names an edge, and a program that goes there: once as words, once
 * straight from its tokens. Each answer is due from both ways.
 */
final class Edge {
    private static final int MOST_RUNS = 4;

    private final String sentence;
    private final Careful byWords = new Careful();
    private final Careful straight = new Careful();

    private Edge(String sentence) {
        this.sentence = sentence;
    }

    static Edge of(String sentence) {
        return new Edge(sentence);
    }

    /** What the expression is, told by MAIN alone. */
    static void worth(String sentence, int want, int... expression) {
        of(sentence).program(Feed.joined(new int[] {11, 7}, expression, new int[] {0})).done().tells(want);
    }

    Edge init(int seed, int room) {
        due("init", byWords.init(seed, room), 0);
        due("init", straight.init(seed, room), 0);
        return this;
    }

    Edge program(int... tokens) {
        byWords.load(tokens);
        straight.load(tokens);
        return this;
    }

    Edge done() {
        return ends(MapMachine.DONE, 0);
    }

    Edge ends(int end, int arg) {
        due("start", byWords.start(arg), 0);
        int got = byWords.run(5000);
        for (int i = 1; i < MOST_RUNS && got == MapMachine.OUT_OF_FUEL; i++) {
            got = byWords.run(5000);
        }
        due("the end of run", got, end);
        due("the end of interpret", straight.interpret(arg, 5000), end);
        return this;
    }

    Edge tells(int... told) {
        due("outSize()", byWords.outSize(), told.length);
        due("outSize() straight", straight.outSize(), told.length);
        for (int i = 0; i < told.length; i++) {
            due("out(" + i + ")", byWords.out(i), told[i]);
            due("out(" + i + ") straight", straight.out(i), told[i]);
        }
        return this;
    }

    Edge toldCount(int n) {
        due("outSize()", byWords.outSize(), n);
        due("outSize() straight", straight.outSize(), n);
        return this;
    }

    Edge variable(int v, int want) {
        due("variable(" + v + ")", byWords.variable(v), want);
        due("variable(" + v + ") straight", straight.variable(v), want);
        return this;
    }

    /** All keys of the map, each with its value behind it. */
    Edge map(int m, int... keysAndValues) {
        keyCount(m, keysAndValues.length / 2);
        for (int i = 0; i < keysAndValues.length; i++) {
            int what = 1 + i % 2;
            String call = "map(" + m + ", " + what + ", " + i / 2 + ")";
            due(call, byWords.map(m, what, i / 2), keysAndValues[i]);
            due(call + " straight", straight.map(m, what, i / 2), keysAndValues[i]);
        }
        return this;
    }

    Edge keyCount(int m, int n) {
        due("map(" + m + ", 0, 0)", byWords.map(m, 0, 0), n);
        due("map(" + m + ", 0, 0) straight", straight.map(m, 0, 0), n);
        return this;
    }

    Edge top(int m, int key) {
        due("map(" + m + ", 3, 0)", byWords.map(m, 3, 0), key);
        due("map(" + m + ", 3, 0) straight", straight.map(m, 3, 0), key);
        return this;
    }

    /** The most cells that one PUT, WITHOUT or UNION made. */
    Edge most(int cells) {
        due("count(4)", byWords.count(4), cells);
        due("count(4) straight", straight.count(4), cells);
        return this;
    }

    /** The cells that the run has at its end; of those the ones of maps 0 .. 3, which interpret() leaves. */
    Edge live(int inRun, int ofAll) {
        due("count(3)", byWords.count(3), inRun);
        due("count(3) straight", straight.count(3), ofAll);
        return this;
    }

    Edge calls(int n) {
        due("count(5)", byWords.count(5), n);
        due("count(5) straight", straight.count(5), 0);
        return this;
    }

    Edge nextWord(int word) {
        due("count(6)", byWords.count(6), word);
        return this;
    }

    Edge steps(int ofRun, int ofInterpret) {
        due("count(2)", byWords.count(2), ofRun);
        due("count(2) straight", straight.count(2), ofInterpret);
        return this;
    }

    private void due(String call, int got, int want) {
        Check.due(sentence + ": " + call, got, want);
    }
}
