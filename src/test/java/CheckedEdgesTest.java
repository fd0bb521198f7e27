import java.util.ArrayList;
import java.util.List;

/**
 * The sentences of 'Terms' on what is CHECKED, and on CODE: a test for each edge that they name. Most of
 * them spoil, one by one, every token of a program that has all kinds.
 */
public final class CheckedEdgesTest {
    private static final int LEAST = -2147483648;
    private static final int GREATEST = 2147483647;

    /**
     * A program with every token. Before each token stands what it is: P a function's or MAIN'S begin, S, E
     * and M, T an S where 4 could stand too, v m f n a number of that kind, g a function that is called, c
     * any number, e the 4, z a 0 where no 4 can stand, y one where a 4 could.
     */
    private static final String ALL_TOKENS =
        "P10 f2 n1 S9 E21 v8 z0 "
        + "P10 f0 n3 S1 v0 E20 c5 S3 E36 g2 E20 c5 T7 E20 c1 e4 S8 g0 E20 c1 E20 c2 E20 c3 z0 z0 "
        + "P10 f7 n0 z0 "
        + "P11 S1 v1 E22 E21 v0 E20 c1 "
        + "S2 m0 M42 M41 E20 c1 E20 c2 S2 m4 M43 M40 m0 E20 c1 S2 m5 M44 M40 m0 M40 m4 "
        + "S3 E27 E21 v1 E20 c3 T7 E20 c1 y0 "
        + "S5 E30 E20 c0 E20 c1 S7 E20 c1 z0 "
        + "S6 m0 v1 v2 S7 E23 E21 v1 E21 v2 z0 "
        + "S7 E24 E20 c1 E20 c2 S7 E25 E20 c1 E20 c2 S7 E26 E20 c1 E20 c2 S7 E28 E20 c1 E20 c2 S7 E29 E20 c1 "
        + "S7 E31 E20 c1 E20 c2 S7 E32 M40 m1 E20 c1 S7 E33 M40 m1 E20 c1 S7 E34 M41 S7 E35 M41 E20 c1 E20 c2 "
        + "S7 E36 g7 S8 g7 S9 E20 c0 z0";

    private static final int[] NO_TOKENS = {LEAST, -11, -2, -1, 12, 13, 19, 37, 38, 39, 45, 46, 99, GREATEST};
    private static final int[] OF_S = {1, 2, 3, 5, 6, 7, 8, 9};
    private static final int[] OF_E = {20, 21, 22, 23, 24, 25, 26, 27, 28, 29, 30, 31, 32, 33, 34, 35, 36};
    private static final int[] OF_M = {40, 41, 42, 43, 44};

    private static final String[] PARTS = ALL_TOKENS.split(" ");
    private static final int[] TOKENS = tokens();

    public static void main(String[] args) {
        wholeProgram();
        wrongTokens();
        endOfTheProgram();
        nothingBehindMain();
        noProgram();
        numbersThatAreNone();
        twice();
        unknown();
        asManyAsParameters();
        anyNumberOfFunctions();
        deepTokens();
        wrongBeforeDeep();
        deepInEachPart();
        deepInEachStatement();
        codeFull();
        faultBeforeCodeFull();
        functionsAsTheyStand();
        wordsOfEmptyParts();
        Check.finish();
    }

    private static int[] row(int... row) {
        return row;
    }

    private static int[] tokens() {
        int[] all = new int[PARTS.length];
        for (int i = 0; i < all.length; i++) {
            all[i] = Integer.parseInt(PARTS[i].substring(1));
        }
        return all;
    }

    private static char kind(int place) {
        return PARTS[place].charAt(0);
    }

    private static Careful fed(int... tokens) {
        Careful x = new Careful();
        for (int token : tokens) {
            x.feed(token);
        }
        return x;
    }

    private static void fault(String sentence, int fault, int place, int... tokens) {
        Careful x = fed(tokens);
        Check.due(sentence + ": compile()", x.compile(), fault);
        Check.due(sentence + ": place()", x.place(), place);
        Check.due(sentence + ": words", x.count(1), 0);
        Check.due(sentence + ": code(0)", x.code(0), MapMachine.NONE);
        Check.due(sentence + ": start()", x.start(0), MapMachine.NOT_READY);
    }

    private static void fine(String sentence, int... tokens) {
        Careful x = fed(tokens);
        Check.holds(sentence + ": compile()", x.compile() > 0);
        Check.due(sentence + ": place()", x.place(), MapMachine.NONE);
    }

    private static void words(String sentence, int[] words, int... tokens) {
        Careful x = fed(tokens);
        Check.due(sentence + ": compile()", x.compile(), words.length);
        for (int i = 0; i < words.length; i++) {
            Check.due(sentence + ": code(" + i + ")", x.code(i), words[i]);
        }
        Check.due(sentence + ": code behind", x.code(words.length), MapMachine.NONE);
    }

    private static int[] with(int place, int token) {
        int[] changed = TOKENS.clone();
        changed[place] = token;
        return changed;
    }

    /** The token at that place is the fault, whatever stands behind it: "the first fault counts". */
    private static void faultAt(String sentence, int fault, int place, int token) {
        String name = sentence + ", " + token + " at " + place;
        int[] changed = with(place, token);
        fault(name, fault, place, changed);
        fault(name + " and no more", fault, place, java.util.Arrays.copyOf(changed, place + 1));
        java.util.Arrays.fill(changed, place + 1, changed.length, 99);
        fault(name + " and other faults", fault, place, changed);
    }

    // ---- WRONG

    private static void wholeProgram() {
        fine("the program with all tokens", TOKENS);
    }

    private static int[] notAllowed(char kind) {
        switch (kind) {
            case 'P': return Feed.joined(NO_TOKENS, row(0, 4), OF_S, OF_E, OF_M);
            case 'E': return Feed.joined(NO_TOKENS, row(0, 4, 10, 11), OF_S, OF_M);
            case 'M': return Feed.joined(NO_TOKENS, row(0, 4, 10, 11), OF_S, OF_E);
            case 'S': case 'z': return Feed.joined(NO_TOKENS, row(4, 10, 11), OF_E, OF_M);
            case 'T': case 'e': case 'y': return Feed.joined(NO_TOKENS, row(10, 11), OF_E, OF_M);
            default: return row();
        }
    }

    /** "WRONG a token that can't stand there (also 4, 0 where they can't ..)" */
    private static void wrongTokens() {
        for (int place = 0; place < TOKENS.length; place++) {
            for (int token : notAllowed(kind(place))) {
                faultAt("WRONG a token that can't stand there", MapMachine.WRONG, place, token);
            }
        }
    }

    /** "WRONG .. the end of the program" */
    private static void endOfTheProgram() {
        for (int length = 0; length < TOKENS.length; length++) {
            fault("WRONG the end of the program", MapMachine.WRONG, length, java.util.Arrays.copyOf(TOKENS, length));
        }
    }

    /** "(Nothing stands behind MAIN'S 0.)" */
    private static void nothingBehindMain() {
        for (int token : Feed.joined(NO_TOKENS, row(0, 4, 10, 11), OF_S, OF_E, OF_M)) {
            fault("nothing stands behind MAIN'S 0", MapMachine.WRONG, TOKENS.length, Feed.joined(TOKENS, row(token)));
            fault("nothing stands behind MAIN'S 0", MapMachine.WRONG, 2, 11, 0, token);
        }
    }

    private static void noProgram() {
        fault("no program", MapMachine.WRONG, 0);
        fault("functions without MAIN", MapMachine.WRONG, 4, 10, 0, 0, 0);
        fault("MAIN twice", MapMachine.WRONG, 2, 11, 0, 11, 0);
        words("MAIN alone", row(0), 11, 0);
    }

    // ---- NUMBER, TWICE, UNKNOWN

    private static int limit(char kind) {
        switch (kind) {
            case 'v': return 14;
            case 'm': return 6;
            case 'f': case 'g': return 8;
            case 'n': return 4;
            default: return 0;
        }
    }

    /** "NUMBER v, m, f or n that is none" */
    private static void numbersThatAreNone() {
        String sentence = "NUMBER v, m, f or n that is none";
        for (int place = 0; place < TOKENS.length; place++) {
            char kind = kind(place);
            int limit = limit(kind);
            if (limit > 0) {
                for (int token : row(-1, limit, limit + 1, LEAST, GREATEST)) {
                    faultAt(sentence, MapMachine.NUMBER, place, token);
                }
            }
            if (kind == 'v' || kind == 'm') {
                fine(sentence + ", 0 is one", with(place, 0));
                fine(sentence + ", so is " + (limit - 1), with(place, limit - 1));
            }
            if (kind == 'c') {
                for (int token : row(LEAST, -1, 0, 14, 45, GREATEST)) {
                    fine("20 n: any number", with(place, token));
                }
            }
        }
        for (int f : row(0, 7)) {
            for (int n : row(0, 3)) {
                fine("f (0 .. 7) with n (0 .. 3)", 10, f, n, 0, 11, 0);
            }
        }
    }

    /** "TWICE a function that is there already" */
    private static void twice() {
        String sentence = "TWICE a function that is there already";
        int functions = 0;
        for (int place = 0; place < TOKENS.length; place++) {
            if (kind(place) == 'f') {
                functions++;
                if (functions >= 2) {
                    faultAt(sentence, MapMachine.TWICE, place, 2);
                }
                if (functions >= 3) {
                    faultAt(sentence, MapMachine.TWICE, place, 0);
                }
            }
        }
        Check.due("functions", functions, 3);
        for (int f = 0; f < 8; f++) {
            fault(sentence, MapMachine.TWICE, 5, 10, f, 0, 0, 10, f, 1, 0, 11, 0);
            fine("another function", 10, f, 0, 0, 10, (f + 1) % 8, 1, 0, 11, 0);
        }
        Careful x = Careful.with(10, 3, 0, 0, 11, 0);
        Check.holds("it is not there already when it is compiled once more", x.compile() > 0);
    }

    /** "UNKNOWN a function in 8 or 36 that is not there yet (one is there from its 10 on)" */
    private static void unknown() {
        String sentence = "UNKNOWN a function in 8 or 36 that is not there yet";
        for (int place = 0; place < TOKENS.length; place++) {
            if (kind(place) == 'g') {
                faultAt(sentence, MapMachine.UNKNOWN, place, 5);
            }
        }
        for (int f = 0; f < 8; f++) {
            fault(sentence, MapMachine.UNKNOWN, 2, 11, 8, f, 0);
            fault(sentence, MapMachine.UNKNOWN, 3, 11, 7, 36, f, 0);
            int other = (f + 3) % 8;
            fault(sentence, MapMachine.UNKNOWN, 4, 10, other, 0, 8, f, 0, 10, f, 0, 0, 11, 0);
            fault(sentence, MapMachine.UNKNOWN, 5, 10, other, 0, 9, 36, f, 0, 10, f, 0, 0, 11, 0);
            fine("there from its 10 on", 10, f, 0, 8, f, 0, 11, 0);
            fine("there from its 10 on", 10, f, 0, 9, 36, f, 0, 11, 0);
            fine("there from its 10 on", 10, f, 0, 0, 10, other, 0, 8, f, 0, 11, 8, other, 8, f, 0);
        }
        // what an earlier compile() knew is not there yet
        Careful x = fed(11, 8, 0, 0, 10, 0, 0, 0, 11, 0);
        Check.due(sentence, x.compile(), MapMachine.UNKNOWN);
        Check.due(sentence + ", once more", x.compile(), MapMachine.UNKNOWN);
        Check.due("init", x.init(0, 1), 0);
        x.load(10, 0, 0, 0, 11, 8, 0, 0);
        Check.due("init", x.init(0, 1), 0);
        for (int token : row(11, 8, 0, 0)) {
            x.feed(token);
        }
        Check.due(sentence + ", after init()", x.compile(), MapMachine.UNKNOWN);
    }

    /** "8 f, E for each parameter of f" and "36 f, E for each parameter" */
    private static void asManyAsParameters() {
        String sentence = "E for each parameter";
        for (int n = 0; n <= 3; n++) {
            for (int given = 0; given <= 4; given++) {
                int[] es = Feed.repeated(given, 20, 1);
                int[] byStatement = Feed.joined(row(10, 0, n, 0, 11, 8, 0), es, row(0));
                int[] byNumber = Feed.joined(row(10, 0, n, 0, 11, 7, 36, 0), es, row(0));
                if (given == n) {
                    fine(sentence, byStatement);
                    fine(sentence, byNumber);
                } else {
                    int place = given < n ? 7 + 2 * given : 7 + 2 * n;
                    fault(sentence, MapMachine.WRONG, place, byStatement);
                    fault(sentence, MapMachine.WRONG, place + 1, byNumber);
                }
            }
        }
    }

    /** "any number of functions, then MAIN" */
    private static void anyNumberOfFunctions() {
        int[] functions = {};
        for (int f = 7; f >= 0; f--) {
            fine("any number of functions", Feed.joined(functions, row(11, 0)));
            functions = Feed.joined(functions, row(10, f, f % 4, 0));
        }
        fine("all eight functions", Feed.joined(functions, row(11, 0)));
        for (int f = 0; f < 8; f++) {
            fault("a ninth function", MapMachine.TWICE, 33, Feed.joined(functions, row(10, f, 0, 0, 11, 0)));
        }
        fault("a ninth function", MapMachine.NUMBER, 33, Feed.joined(functions, row(10, 8, 0, 0, 11, 0)));
    }

    // ---- DEEP

    private static int[] insideNumbers(int others, int token) {
        return Feed.joined(row(11, 7), Feed.repeated(others - 1, 29), row(token));
    }

    private static int[] insideMaps(int others, int token) {
        return Feed.joined(row(11, 2, 0), Feed.repeated(others - 1, 44), row(token));
    }

    private static int[] insideStatements(int others, int token) {
        return Feed.joined(row(11), Feed.repeated(others, 6, 0, 1, 2), row(token));
    }

    /** "DEEP a token of E, M or S that is within 16 others of these" */
    private static void deepTokens() {
        String sentence = "DEEP a token that is within 16 others";
        for (int token : OF_E) {
            fault(sentence, MapMachine.DEEP, 17, insideNumbers(16, token));
        }
        for (int token : OF_M) {
            fault(sentence, MapMachine.DEEP, 18, insideMaps(16, token));
        }
        for (int token : OF_S) {
            fault(sentence, MapMachine.DEEP, 65, insideStatements(16, token));
        }
        // within 15 the end that comes too early is the fault
        fault("within 15 others", MapMachine.WRONG, 17, insideNumbers(15, 20));
        fault("within 15 others", MapMachine.WRONG, 18, insideMaps(15, 40));
        fault("within 15 others", MapMachine.WRONG, 62, insideStatements(15, 7));
        fine("within 15 others", Feed.joined(insideNumbers(15, 20), row(1, 0)));
        fine("within 15 others", Feed.joined(insideMaps(15, 41), Feed.repeated(14, 41), row(0)));
        fine("within 15 others", Feed.joined(insideStatements(15, 6), row(0, 1, 2), Feed.repeated(17, 0)));
        fine("0 is no token of E, M or S", Feed.joined(insideStatements(16, 0), Feed.repeated(16, 0)));
        // one behind the other is not one within the other
        fine("many, one behind the other", Feed.joined(row(11), Feed.repeated(40, 7, 29, 29, 20, 1), row(0)));
    }

    /** "at one token the one told first here": WRONG is told before DEEP. */
    private static void wrongBeforeDeep() {
        String sentence = "WRONG before DEEP";
        for (int token : notAllowed('E')) {
            fault(sentence, MapMachine.WRONG, 17, insideNumbers(16, token));
        }
        for (int token : notAllowed('M')) {
            fault(sentence, MapMachine.WRONG, 18, insideMaps(16, token));
        }
        for (int token : notAllowed('S')) {
            fault(sentence, MapMachine.WRONG, 65, insideStatements(16, token));
        }
        fault(sentence + ", the end", MapMachine.WRONG, 17, Feed.joined(row(11, 7), Feed.repeated(15, 29)));
        fault(sentence + ", the end", MapMachine.WRONG, 18, Feed.joined(row(11, 2, 0), Feed.repeated(15, 44)));
        fault(sentence + ", the end", MapMachine.WRONG, 65, Feed.joined(row(11), Feed.repeated(16, 6, 0, 1, 2)));
    }

    /** What begins the part, up to a child, and what is behind that child. */
    private record Part(int[] before, int[] behind) { }

    private static Part part(int[] before, int... behind) {
        return new Part(before, behind);
    }

    private static final int[] E_CHILD = {29, 20, 1};
    private static final int[] M_CHILD = {43, 41, 20, 1};
    private static final int[] S_CHILD = {7, 20, 1};

    private static List<Part> numbersWithNumber() {
        List<Part> all = new ArrayList<>();
        for (int token : row(22, 23, 24, 25, 26, 27, 28, 30, 31)) {
            all.add(part(row(token), 20, 1));
            all.add(part(row(token, 20, 1)));
        }
        all.add(part(row(29)));
        all.add(part(row(32, 41)));
        all.add(part(row(33, 41)));
        all.add(part(row(35, 41), 20, 1));
        all.add(part(row(35, 41, 20, 1)));
        all.add(part(row(36, 0), 20, 1, 20, 2));
        all.add(part(row(36, 0, 20, 1), 20, 2));
        all.add(part(row(36, 0, 20, 1, 20, 2)));
        return all;
    }

    private static List<Part> numbersWithMap() {
        return List.of(part(row(32), 20, 1), part(row(33), 20, 1), part(row(34)), part(row(35), 20, 1, 20, 2));
    }

    private static List<Part> mapsWithNumber() {
        return List.of(part(row(42, 41), 20, 1), part(row(42, 41, 20, 1)), part(row(43, 41)));
    }

    private static List<Part> mapsWithMap() {
        return List.of(part(row(42), 20, 1, 20, 2), part(row(43), 20, 1), part(row(44), 41), part(row(44, 41)));
    }

    private static void deepInEachPart() {
        for (Part p : numbersWithNumber()) {
            depthOf(row(7), row(29), p, E_CHILD, row());
        }
        for (Part p : numbersWithMap()) {
            depthOf(row(7), row(29), p, M_CHILD, row());
        }
        for (Part p : mapsWithNumber()) {
            depthOf(row(2, 0), row(43), p, E_CHILD, row(20, 1));
        }
        for (Part p : mapsWithMap()) {
            depthOf(row(2, 0), row(43), p, M_CHILD, row(20, 1));
        }
    }

    /** The child's own first part is within the statement, n wrappers, the part and the child: n + 3 others. */
    private static void depthOf(int[] statement, int[] wrapper, Part p, int[] child, int[] behindWrapper) {
        for (int n = 12; n <= 13; n++) {
            int[] tokens = Feed.joined(statement, Feed.repeated(n, wrapper), p.before, child, p.behind, Feed.repeated(n, behindWrapper));
            int place = statement.length + n + p.before.length + 1;
            deepOrFine(tokens, place, n == 13);
        }
    }

    private static void deepInEachStatement() {
        for (int[] before : new int[][] {row(1, 0), row(7), row(9), row(8, 0), row(8, 0, 20, 1), row(8, 0, 20, 1, 20, 2)}) {
            int[] behind = before[0] != 8 ? row() : Feed.repeated((6 - before.length) / 2, 20, 3);
            depthOfStatement(part(before, behind), E_CHILD);
        }
        depthOfStatement(part(row(2, 0)), M_CHILD);
        depthOfStatement(part(row(3), 0), E_CHILD);
        depthOfStatement(part(row(3), 4, 0), E_CHILD);
        depthOfStatement(part(row(5), 0), E_CHILD);
        depthOfStatement(part(row(3, 20, 1), 0), S_CHILD);
        depthOfStatement(part(row(3, 20, 1), 4, 0), S_CHILD);
        depthOfStatement(part(row(3, 20, 1, 4), 0), S_CHILD);
        depthOfStatement(part(row(3, 20, 1, 6, 0, 1, 2, 0, 4, 6, 0, 1, 2, 0), 0), S_CHILD);
        depthOfStatement(part(row(5, 20, 1), 0), S_CHILD);
        depthOfStatement(part(row(6, 0, 1, 2), 0), S_CHILD);
    }

    /** The child's own first part is within n ifs, the statement and the child: n + 2 others. */
    private static void depthOfStatement(Part p, int[] child) {
        for (int n = 13; n <= 14; n++) {
            int[] tokens = Feed.joined(Feed.repeated(n, 3, 20, 1), p.before, child, p.behind, Feed.repeated(n, 0));
            int place = 3 * n + p.before.length + 1;
            deepOrFine(tokens, place, n == 14);
        }
    }

    /** In MAIN, and in a function, where function 0 of three parameters is known. */
    private static void deepOrFine(int[] statement, int place, boolean deep) {
        int[] inMain = Feed.joined(row(10, 0, 3, 0, 11), statement, row(0));
        int[] inFunction = Feed.joined(row(10, 0, 3, 0, 10, 1, 0), statement, row(0, 11, 0));
        if (deep) {
            fault("DEEP in MAIN", MapMachine.DEEP, 5 + place, inMain);
            fault("DEEP in a function", MapMachine.DEEP, 7 + place, inFunction);
        } else {
            fine("not DEEP in MAIN", inMain);
            fine("not DEEP in a function", inFunction);
        }
    }

    // ---- CODE

    /** An E of n times 30: 3 n + 2 tokens, and 10 n + 2 words. */
    private static int[] ands(int n) {
        if (n == 0) {
            return row(21, 0);
        }
        return Feed.joined(row(30), ands((n - 1) / 2), ands(n - 1 - (n - 1) / 2));
    }

    /** 1499 words but for MAIN'S 0: 9 times 7 with 153, once 7 with 113, three times 7 with 3. */
    private static int[] manyWords() {
        int[] tell = Feed.joined(row(7), ands(15));
        return Feed.joined(row(11), Feed.repeated(9, tell), row(7), ands(11), Feed.repeated(3, 7, 21, 0));
    }

    /** "CODE_FULL: more than 1500 words." */
    private static void codeFull() {
        Careful x = fed(Feed.joined(manyWords(), row(0)));
        Check.due("1500 words", x.compile(), 1500);
        Check.due("1500 words: count(1)", x.count(1), 1500);
        Check.due("1500 words: code(1499)", x.code(1499), 0);
        Check.due("1500 words: code(1498)", x.code(1498), 15);
        Check.due("1500 words: code(1500)", x.code(1500), MapMachine.NONE);
        Check.due("1500 words: start()", x.start(1), 0);
        Check.due("1500 words: run()", x.run(5000), MapMachine.DONE);
        Check.due("1500 words: count(6)", x.count(6), 1500);
        Check.due("1500 words: outSize()", x.outSize(), 13);
        fault("more than 1500 words", MapMachine.CODE_FULL, MapMachine.NONE, Feed.joined(manyWords(), row(9, 21, 0, 0)));
        int[] oneMore = Feed.joined(java.util.Arrays.copyOf(manyWords(), manyWords().length - 2), row(29, 21, 0, 0));
        fault("1501 words", MapMachine.CODE_FULL, MapMachine.NONE, oneMore);
        // a function's words count too: 1 0 17 are three, as are those of 7 21 0
        int[] less = java.util.Arrays.copyOf(manyWords(), manyWords().length - 3);
        fine("1500 words with a function", Feed.joined(row(10, 0, 0, 0), less, row(0)));
        fault("1503 words with a function", MapMachine.CODE_FULL, MapMachine.NONE, Feed.joined(row(10, 0, 0, 0), manyWords(), row(0)));
    }

    /** The program is CHECKED first: a fault far behind the 1500th word counts. */
    private static void faultBeforeCodeFull() {
        int[] many = Feed.joined(manyWords(), row(7, 21, 0));
        fault("a fault before CODE_FULL", MapMachine.WRONG, many.length, many);
        fault("a fault before CODE_FULL", MapMachine.NUMBER, many.length + 2, Feed.joined(many, row(7, 21, 14, 0)));
        fault("a fault before CODE_FULL", MapMachine.WRONG, many.length + 1, Feed.joined(many, row(0, 0)));
    }

    /** "A program's words: functions as they stand" */
    private static void functionsAsTheyStand() {
        words("functions as they stand", row(1, 1, 15, 1, 0, 17, 1, 2, 15, 1, 0, 17, 1, 3, 15, 0),
            10, 7, 0, 7, 20, 1, 0, 10, 0, 0, 7, 20, 2, 0, 11, 7, 20, 3, 0);
        Careful x = Careful.with(10, 7, 0, 7, 20, 1, 0, 10, 0, 0, 7, 20, 2, 0, 11, 8, 0, 8, 7, 0);
        x.start(0);
        Check.due("the run begins at MAIN'S first word", x.count(6), 12);
        Check.due("run", x.run(100), MapMachine.DONE);
        Check.due("function 0", x.out(0), 2);
        Check.due("function 7", x.out(1), 1);
    }

    private static void wordsOfEmptyParts() {
        words("3 with no S", row(2, 0, 13, 4, 0), 11, 3, 21, 0, 0, 0);
        words("3 with no S, and 4", row(2, 0, 13, 6, 12, 6, 0), 11, 3, 21, 0, 4, 0, 0);
        words("5 with no S", row(2, 0, 13, 6, 12, 0, 0), 11, 5, 21, 0, 0, 0);
        words("6 with no S", row(19, 5, 29, 13, 0, 8, 12, 2, 0), 11, 6, 5, 13, 0, 0, 0);
        words("8 with no E", row(1, 0, 17, 16, 3, 18, 0), 10, 3, 0, 0, 11, 8, 3, 0);
        words("36 with no E", row(1, 0, 17, 16, 3, 15, 0), 10, 3, 0, 0, 11, 7, 36, 3, 0);
        words("a function with no S", row(1, 0, 17, 0), 10, 3, 0, 0, 11, 0);
    }
}
