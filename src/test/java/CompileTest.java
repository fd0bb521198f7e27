/** Promises 4, 5 and 6: faults and their places, the order in which they count, and the words, written out by hand. */
public final class CompileTest {
    public static void main(String[] args) {
        structure();
        numbers();
        functions();
        depth();
        whichFaultFirst();
        words();
        tooManyWords();
        placeAndCode();
        Check.finish();
    }

    private static String text(int[] tokens) {
        StringBuilder text = new StringBuilder();
        for (int i = 0; i < tokens.length && i < 80; i++) {
            text.append(tokens[i]).append(' ');
        }
        return text.toString();
    }

    private static void fault(int fault, int place, int... tokens) {
        MapMachine x = Feed.fed(tokens);
        Check.due("compile of " + text(tokens), x.compile(), fault);
        Check.due("place in " + text(tokens), x.place(), place);
        Check.due("words of " + text(tokens), x.count(1), 0);
        Check.due("code of " + text(tokens), x.code(0), MapMachine.NONE);
        Check.due("start of " + text(tokens), x.start(1), MapMachine.NOT_READY);
        Check.due("interpret of " + text(tokens), x.interpret(1, 1), MapMachine.NOT_READY);
    }

    private static void gives(int[] words, int... tokens) {
        MapMachine x = Feed.fed(tokens);
        Check.due("compile of " + text(tokens), x.compile(), words.length);
        Check.due("place in " + text(tokens), x.place(), MapMachine.NONE);
        Check.due("words of " + text(tokens), x.count(1), words.length);
        for (int i = 0; i < words.length; i++) {
            Check.due("code " + i + " of " + text(tokens), x.code(i), words[i]);
        }
        Check.due("code behind " + text(tokens), x.code(words.length), MapMachine.NONE);
        Check.due("code before " + text(tokens), x.code(-1), MapMachine.NONE);
    }

    private static int[] row(int... row) {
        return row;
    }

    private static void structure() {
        fault(MapMachine.WRONG, 0);
        fault(MapMachine.WRONG, 0, 0);
        fault(MapMachine.WRONG, 0, -1);
        fault(MapMachine.WRONG, 0, 1, 0, 20, 0);
        fault(MapMachine.WRONG, 1, 11);
        fault(MapMachine.WRONG, 2, 11, 0, 0);
        fault(MapMachine.WRONG, 2, 11, 0, 11, 0);
        fault(MapMachine.WRONG, 2, 11, 0, 10);
        fault(MapMachine.WRONG, 1, 11, 4, 0);
        fault(MapMachine.WRONG, 1, 11, 10, 0, 0, 0, 0);
        fault(MapMachine.WRONG, 1, 11, 20, 1, 0);
        fault(MapMachine.WRONG, 1, 10);
        fault(MapMachine.WRONG, 2, 10, 0);
        fault(MapMachine.WRONG, 3, 10, 0, 0);
        fault(MapMachine.WRONG, 4, 10, 0, 0, 0);
        fault(MapMachine.WRONG, 4, 10, 0, 0, 0, 0);
        fault(MapMachine.WRONG, 3, 10, 0, 0, 4, 0, 11, 0);
        fault(MapMachine.WRONG, 2, 11, 7, 0, 0);
        fault(MapMachine.WRONG, 2, 11, 7, 40, 0, 0);
        fault(MapMachine.WRONG, 3, 11, 2, 0, 20, 0, 0);
        fault(MapMachine.WRONG, 2, 11, 7, 37, 0);
        fault(MapMachine.WRONG, 2, 11, 7, 19, 0);
        fault(MapMachine.WRONG, 3, 11, 2, 0, 39, 0);
        fault(MapMachine.WRONG, 3, 11, 2, 0, 45, 0);
        fault(MapMachine.WRONG, 3, 11, 7, 20);
        fault(MapMachine.WRONG, 2, 11, 1);
        fault(MapMachine.WRONG, 3, 11, 6, 0);
        fault(MapMachine.WRONG, 5, 11, 6, 0, 0, 0);
        fault(MapMachine.WRONG, 5, 11, 6, 0, 0, 0, 4, 0, 0);
        fault(MapMachine.WRONG, 4, 11, 5, 20, 0, 4, 0, 0);
        fault(MapMachine.WRONG, 5, 11, 3, 20, 1, 4, 4, 0, 0);
        fault(MapMachine.WRONG, 4, 11, 3, 20, 1);
        fault(MapMachine.WRONG, 5, 11, 3, 20, 1, 4);
        fault(MapMachine.WRONG, 5, 11, 3, 20, 1, 0);
        fault(MapMachine.WRONG, 4, 11, 3, 20, 1, 12, 0, 0);
        fault(MapMachine.WRONG, 5, 11, 7, 22, 20, 1, 0);
    }

    private static void numbers() {
        fault(MapMachine.NUMBER, 1, 10, 8, 0, 0, 11, 0);
        fault(MapMachine.NUMBER, 1, 10, -1, 0, 0, 11, 0);
        fault(MapMachine.NUMBER, 2, 10, 0, 4, 0, 11, 0);
        fault(MapMachine.NUMBER, 2, 10, 0, -1, 0, 11, 0);
        fault(MapMachine.NUMBER, 2, 11, 1, 14, 20, 0, 0);
        fault(MapMachine.NUMBER, 2, 11, 1, -1, 20, 0, 0);
        fault(MapMachine.NUMBER, 3, 11, 7, 21, 14, 0);
        fault(MapMachine.NUMBER, 2, 11, 2, 6, 41, 0);
        fault(MapMachine.NUMBER, 4, 11, 2, 0, 40, 6, 0);
        fault(MapMachine.NUMBER, 2, 11, 6, 6, 0, 0, 0, 0);
        fault(MapMachine.NUMBER, 3, 11, 6, 5, 14, 0, 0, 0);
        fault(MapMachine.NUMBER, 4, 11, 6, 5, 13, -2147483648, 0, 0);
        fault(MapMachine.NUMBER, 2, 11, 8, 8, 0);
        fault(MapMachine.NUMBER, 3, 11, 7, 36, -1, 0);
        gives(row(1, 2147483647, 15, 0), 11, 7, 20, 2147483647, 0);
        gives(row(1, -1, 3, 13, 0), 11, 1, 13, 20, -1, 0);
        gives(row(19, 5, 20, 5, 0), 11, 2, 5, 40, 5, 0);
    }

    private static void functions() {
        fault(MapMachine.TWICE, 5, 10, 3, 0, 0, 10, 3, 0, 0, 11, 0);
        fault(MapMachine.TWICE, 5, 10, 3, 0, 0, 10, 3, 9);
        fault(MapMachine.UNKNOWN, 2, 11, 8, 0, 0);
        fault(MapMachine.UNKNOWN, 3, 11, 7, 36, 7, 0);
        fault(MapMachine.UNKNOWN, 4, 10, 0, 0, 8, 1, 0, 10, 1, 0, 0, 11, 0);
        fault(MapMachine.WRONG, 4, 10, 0, 0, 8);
        fault(MapMachine.WRONG, 7, 10, 2, 1, 0, 11, 8, 2, 0);
        fault(MapMachine.WRONG, 9, 10, 2, 1, 0, 11, 8, 2, 20, 5, 20, 6, 0);
        // one is there from its 10 on
        gives(row(16, 0, 18, 1, 0, 17, 0), 10, 0, 0, 8, 0, 0, 11, 0);
        gives(row(1, 0, 17, 1, 0, 17, 1, 4, 1, 5, 1, 6, 16, 7, 15, 0),
            10, 7, 3, 0, 10, 0, 2, 0, 11, 7, 36, 7, 20, 4, 20, 5, 20, 6, 0);
        // eight functions are all there are
        int[] eight = {};
        for (int f = 0; f < 8; f++) {
            eight = Feed.joined(eight, row(10, f, f % 4, 0));
        }
        MapMachine all = Feed.fed(Feed.joined(eight, row(11, 0)));
        Check.due("eight functions", all.compile(), 25);
        fault(MapMachine.TWICE, 33, Feed.joined(eight, row(10, 5, 0, 0, 11, 0)));
        fault(MapMachine.NUMBER, 33, Feed.joined(eight, row(10, 8, 0, 0, 11, 0)));
        fault(MapMachine.WRONG, 33, Feed.joined(eight, row(10)));
        // what a compile() before knew is known no more
        MapMachine x = Feed.compiled(10, 0, 0, 0, 11, 0);
        Check.holds("compiles once more", x.compile() > 0);
    }

    private static void depth() {
        // 7 and n times 29 before a number: 20 is within n + 1
        int[] fifteen = Feed.joined(row(11, 7), Feed.repeated(14, 29), row(20, 1, 0));
        gives(Feed.joined(row(1, 1), Feed.repeated(14, 11), row(15, 0)), fifteen);
        fault(MapMachine.DEEP, 17, Feed.joined(row(11, 7), Feed.repeated(15, 29), row(20, 1, 0)));
        // a token that can't stand there is WRONG even so deep
        fault(MapMachine.WRONG, 17, Feed.joined(row(11, 7), Feed.repeated(15, 29), row(40, 1, 0)));
        // the 16th 42 is within 2 and 15 others
        fault(MapMachine.DEEP, 18, Feed.joined(row(11, 2, 0), Feed.repeated(16, 42)));
        fault(MapMachine.WRONG, 18, Feed.joined(row(11, 2, 0), Feed.repeated(15, 42)));
        // 16 loops: an S in the last one is within 16; 0 is no S
        int[] open = Feed.repeated(16, 6, 0, 1, 2);
        fault(MapMachine.DEEP, 65, Feed.joined(row(11), open, row(7, 20, 1)));
        fault(MapMachine.WRONG, 65, Feed.joined(row(11), open, row(10)));
        fault(MapMachine.WRONG, 65, Feed.joined(row(11), open, row(4)));
        fault(MapMachine.WRONG, 65, Feed.joined(row(11), open));
        MapMachine loops = Feed.fed(Feed.joined(row(11), open, Feed.repeated(17, 0)));
        Check.due("16 loops, one in the other", loops.compile(), 16 * 8 + 1);
        // the E of the 16th if is within it and 15 others
        fault(MapMachine.DEEP, 47, Feed.joined(row(11), Feed.repeated(16, 3, 20, 1)));
        MapMachine ifs = Feed.fed(Feed.joined(row(11), Feed.repeated(15, 3, 20, 1), row(4), Feed.repeated(16, 0)));
        Check.due("15 ifs, the last with a 4", ifs.compile(), 15 * 4 + 2 + 1);
        // what is in a 4 is as deep as what is before it
        int[] inElse = Feed.joined(row(11), Feed.repeated(14, 3, 20, 1), row(7, 20, 1, 4, 7));
        fault(MapMachine.DEEP, 49, Feed.joined(inElse, row(29, 20, 1)));
    }

    private static void whichFaultFirst() {
        // the left one counts, even if another has a name told before it
        fault(MapMachine.NUMBER, 2, 11, 1, 14, 99);
        fault(MapMachine.UNKNOWN, 2, 11, 8, 1, 99);
        fault(MapMachine.NUMBER, 1, 10, 9, 9, 99);
        fault(MapMachine.WRONG, 1, 11, 99, 7, 21, 14);
        // a fault counts before words that are too many
        int[] many = manyWords(50);
        fault(MapMachine.WRONG, many.length, many);
    }

    private static void words() {
        gives(row(0), 11, 0);
        gives(row(1, 5, 3, 0, 0), 11, 1, 0, 20, 5, 0);
        for (int token = 22; token <= 28; token++) {
            gives(row(2, 0, 2, 1, token - 18, 15, 0), 11, 7, token, 21, 0, 21, 1, 0);
        }
        gives(row(2, 3, 11, 15, 0), 11, 7, 29, 21, 3, 0);
        gives(row(2, 0, 13, 10, 2, 1, 11, 11, 12, 12, 1, 0, 15, 0), 11, 7, 30, 21, 0, 21, 1, 0);
        gives(row(2, 0, 14, 10, 2, 1, 11, 11, 12, 12, 1, 1, 15, 0), 11, 7, 31, 21, 0, 21, 1, 0);
        gives(row(19, 1, 1, 7, 25, 15, 0), 11, 7, 32, 40, 1, 20, 7, 0);
        gives(row(19, 1, 1, 7, 26, 15, 0), 11, 7, 33, 40, 1, 20, 7, 0);
        gives(row(21, 27, 15, 0), 11, 7, 34, 41, 0);
        gives(row(21, 1, 1, 1, 2, 28, 15, 0), 11, 7, 35, 41, 20, 1, 20, 2, 0);
        gives(row(21, 1, 1, 1, 2, 22, 20, 0, 0), 11, 2, 0, 42, 41, 20, 1, 20, 2, 0);
        gives(row(19, 2, 1, 1, 23, 20, 0, 0), 11, 2, 0, 43, 40, 2, 20, 1, 0);
        gives(row(19, 2, 19, 3, 24, 20, 0, 0), 11, 2, 0, 44, 40, 2, 40, 3, 0);
        gives(row(2, 0, 13, 7, 1, 1, 15, 0), 11, 3, 21, 0, 7, 20, 1, 0, 0);
        gives(row(2, 0, 13, 9, 1, 1, 15, 12, 12, 1, 2, 15, 0), 11, 3, 21, 0, 7, 20, 1, 4, 7, 20, 2, 0, 0);
        gives(row(2, 0, 13, 6, 12, 6, 0), 11, 3, 21, 0, 4, 0, 0);
        gives(row(2, 0, 13, 9, 1, 1, 15, 12, 0, 0), 11, 5, 21, 0, 7, 20, 1, 0, 0);
        gives(row(19, 4, 29, 8, 9, 11, 2, 8, 15, 12, 2, 0), 11, 6, 4, 8, 9, 7, 21, 8, 0, 0);
        gives(row(1, 3, 18, 0, 0), 11, 9, 20, 3, 0);
        gives(row(1, 3, 17, 1, 0, 17, 0), 10, 5, 0, 9, 20, 3, 0, 11, 0);
        gives(row(2, 8, 17, 1, 0, 17, 1, 4, 16, 5, 18, 1, 4, 16, 5, 15, 0),
            10, 5, 1, 9, 21, 8, 0, 11, 8, 5, 20, 4, 7, 36, 5, 20, 4, 0);
    }

    /** Behind 11 n times one that tells, each of 12 tokens and 33 words. */
    private static int[] manyWords(int n) {
        return Feed.joined(row(11), Feed.repeated(n, 7, 30, 30, 21, 0, 21, 0, 30, 21, 0, 21, 0));
    }

    private static void tooManyWords() {
        // 45 of these and the last word are 1486, 46 are 1519
        MapMachine x = Feed.fed(Feed.joined(manyWords(45), row(0)));
        Check.due("words that just fit", x.compile(), 45 * 33 + 1);
        MapMachine y = Feed.fed(Feed.joined(manyWords(46), row(0)));
        Check.due("too many words", y.compile(), MapMachine.CODE_FULL);
        Check.due("place with too many words", y.place(), MapMachine.NONE);
        Check.due("count(1) with too many words", y.count(1), 0);
        Check.due("code with too many words", y.code(0), MapMachine.NONE);
        Check.due("start with too many words", y.start(0), MapMachine.NOT_READY);
        // 1485, twice the 4 of 1 0 20 1, and 6 or 7 of what is told, and the last
        int[] less = Feed.joined(manyWords(45), Feed.repeated(2, 1, 0, 20, 1));
        MapMachine just = Feed.fed(Feed.joined(less, row(7, 29, 29, 29, 20, 1, 0)));
        Check.due("1500 words", just.compile(), 1500);
        Check.due("the last word", just.code(1499), 0);
        Check.due("no word behind", just.code(1500), MapMachine.NONE);
        MapMachine more = Feed.fed(Feed.joined(less, row(7, 29, 29, 29, 29, 20, 1, 0)));
        Check.due("1501 words", more.compile(), MapMachine.CODE_FULL);
    }

    private static void placeAndCode() {
        MapMachine x = new MapMachine();
        Check.due("place() before any compile()", x.place(), MapMachine.NONE);
        Check.due("code(0) before any compile()", x.code(0), MapMachine.NONE);
        Feed.add(x, 11, 5);
        Check.due("compile()", x.compile(), MapMachine.WRONG);
        Check.due("place()", x.place(), 2);
        Check.due("place() again", x.place(), 2);
        Feed.add(x, 20);
        Check.due("place() when a token came", x.place(), MapMachine.NONE);
        Feed.add(x, 0, 0, 0);
        Check.due("compile()", x.compile(), 7);
        Check.due("place() without a fault", x.place(), MapMachine.NONE);
        Check.due("code(6)", x.code(6), 0);
        Check.due("code(7)", x.code(7), MapMachine.NONE);
        Check.due("code(2147483647)", x.code(2147483647), MapMachine.NONE);
        Check.due("code(-2147483648)", x.code(-2147483648), MapMachine.NONE);
        Feed.add(x, 0);
        Check.due("code(0) when a token came", x.code(0), MapMachine.NONE);
        Check.due("count(1) when a token came", x.count(1), 0);
        Check.due("compile()", x.compile(), MapMachine.WRONG);
        Check.due("place() behind MAIN", x.place(), 6);
        Check.due("init", x.init(1, 0), MapMachine.BAD);
        Check.due("place() after an init() that is BAD", x.place(), 6);
        Check.due("init", x.init(1, 1), 0);
        Check.due("place() after init()", x.place(), MapMachine.NONE);
    }
}
