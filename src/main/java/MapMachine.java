/**
 * A machine for a small language of numbers and ordered maps: tokens are fed, checked and compiled
 * to words for a stack machine; or they are done straight from the tokens.
 *
 * All rows are made once, with the object: no call makes an object of its own.
 */
public final class MapMachine {
    public static final int NONE = -1, BAD = -2, FULL = -3;
    public static final int WRONG = -11, NUMBER = -12, TWICE = -13, UNKNOWN = -14, DEEP = -15, CODE_FULL = -16;
    public static final int DONE = 0, OUT_OF_FUEL = 1, DIV_ZERO = 2, STACK_FULL = 3, OUT_FULL = 4, OUT_OF_HEAP = 5, NOT_READY = 6;

    private static final int FIRST_ROOM = 300;
    private static final int MOST_ROOM = 400;
    private static final int MOST_TOKENS = 700;
    private static final int MOST_WORDS = 1500;
    private static final int MOST_STEPS = 5000;
    private static final int MOST_TOLD = 300;
    private static final int MOST_CALLS = 24;
    private static final int MOST_DEPTH = 16;
    private static final int FUNCTIONS = 8;
    private static final int MOST_PARAMETERS = 3;
    private static final int SHARED_VARIABLES = 8;
    private static final int OWN_VARIABLES = 6;
    private static final int VARIABLES = SHARED_VARIABLES + OWN_VARIABLES;
    private static final int SHARED_MAPS = 4;
    private static final int OWN_MAPS = 2;
    private static final int MAPS = SHARED_MAPS + OWN_MAPS;

    /** What an instruction answers that does not end its run: the run's answer, were it stopped there. */
    private static final int GOES_ON = OUT_OF_FUEL;

    private final Program program;
    private final Compiler compiler;
    private final Cells cells;
    private final Store store;
    private final Runner runner;
    private final Walker walker;

    public MapMachine() {
        program = new Program();
        compiler = new Compiler(program);
        cells = new Cells();
        store = new Store(cells);
        runner = new Runner(program, store);
        walker = new Walker(program, store);
        cells.furnish(0, FIRST_ROOM);
    }

    public int init(int seed, int room) {
        if (room < 1 || room > MOST_ROOM) {
            return BAD;
        }
        program.clear();
        runner.drop();
        cells.furnish(seed, room);
        store.clear();
        return 0;
    }

    public int feed(int token) {
        if (!program.add(token)) {
            return FULL;
        }
        leaveRun();
        return program.size();
    }

    public int compile() {
        leaveRun();
        return compiler.translate();
    }

    public int place() {
        return program.faultPlace();
    }

    public int code(int i) {
        return program.word(i);
    }

    public int start(int arg) {
        if (!program.ready()) {
            return NOT_READY;
        }
        store.begin(arg);
        runner.begin();
        return 0;
    }

    public int run(int n) {
        if (!mayBeGranted(n)) {
            return BAD;
        }
        return runner.there() ? runner.goOn(n) : NOT_READY;
    }

    public int interpret(int arg, int n) {
        if (!mayBeGranted(n)) {
            return BAD;
        }
        if (!program.ready()) {
            return NOT_READY;
        }
        store.begin(arg);
        int end = walker.walk(n);
        leaveRun();
        return end;
    }

    public int outSize() {
        return store.toldCount();
    }

    public int out(int i) {
        return store.told(i);
    }

    public int variable(int v) {
        return v >= 0 && v < SHARED_VARIABLES ? store.number(v) : 0;
    }

    public int map(int m, int what, int i) {
        if (m < 0 || m >= SHARED_MAPS) {
            return BAD;
        }
        int tree = store.tree(m);
        switch (what) {
            case 0: return cells.size(tree);
            case 1: return cells.key(cells.nth(tree, i));
            case 2: return cells.value(cells.nth(tree, i));
            case 3: return cells.key(tree);
            default: return BAD;
        }
    }

    public int count(int what) {
        switch (what) {
            case 0: return program.size();
            case 1: return program.wordCount();
            case 2: return store.steps();
            case 3: return store.live();
            case 4: return store.mostMade();
            case 5: return store.calls();
            case 6: return runner.there() ? runner.nextWord() : NONE;
            case 7: return runner.there() ? runner.end() : NOT_READY;
            default: return BAD;
        }
    }

    private static boolean mayBeGranted(int n) {
        return n >= 1 && n <= MOST_STEPS;
    }

    private void leaveRun() {
        runner.drop();
        store.forgetCalls();
    }

    /** Rows whose every use looks at the index first; beside a row all is 0. */
    private static final class Rows {
        static int at(int[] row, int i) {
            return i >= 0 && i < row.length ? row[i] : 0;
        }

        static long at(long[] row, int i) {
            return i >= 0 && i < row.length ? row[i] : 0;
        }

        static void set(int[] row, int i, int x) {
            if (i >= 0 && i < row.length) {
                row[i] = x;
            }
        }

        static void set(long[] row, int i, long x) {
            if (i >= 0 && i < row.length) {
                row[i] = x;
            }
        }

        static void zero(int[] row) {
            for (int i = 0; i < row.length; i++) {
                row[i] = 0;
            }
        }
    }

    /** The tokens of the language, and what stands behind each. */
    private static final class Token {
        static final int END = 0;
        static final int SET = 1;
        static final int SET_MAP = 2;
        static final int IF = 3;
        static final int ELSE = 4;
        static final int WHILE = 5;
        static final int EACH = 6;
        static final int TELL = 7;
        static final int CALL = 8;
        static final int ANSWER = 9;
        static final int FUNCTION = 10;
        static final int MAIN = 11;
        static final int CONSTANT = 20;
        static final int VARIABLE = 21;
        static final int SUM = 22;
        static final int EQUAL = 28;
        static final int NOT = 29;
        static final int AND = 30;
        static final int OR = 31;
        static final int VALUE = 32;
        static final int HAS = 33;
        static final int SIZE = 34;
        static final int FLOOR = 35;
        static final int CALLED = 36;
        static final int MAP = 40;
        static final int NO_KEYS = 41;
        static final int PUT = 42;
        static final int WITHOUT = 43;
        static final int UNION = 44;

        static boolean isStatement(int token) {
            return token >= SET && token <= ANSWER && token != ELSE;
        }

        static boolean isNumber(int token) {
            return token >= CONSTANT && token <= CALLED;
        }

        static boolean isMap(int token) {
            return token >= MAP && token <= UNION;
        }

        /** How many bare numbers (v, m, f, n) stand behind the token before anything else. */
        static int arguments(int token) {
            switch (token) {
                case SET: case SET_MAP: case CALL: case CONSTANT: case VARIABLE: case CALLED: case MAP:
                    return 1;
                case EACH:
                    return 3;
                default:
                    return 0;
            }
        }

        /** How many M stand behind it; they stand before all E. */
        static int maps(int token) {
            switch (token) {
                case SET_MAP: case VALUE: case HAS: case SIZE: case FLOOR: case PUT: case WITHOUT:
                    return 1;
                case UNION:
                    return 2;
                default:
                    return 0;
            }
        }

        /** How many E stand behind it, but for calls, where the function says it. */
        static int numbers(int token) {
            if (token >= SUM && token <= EQUAL) {
                return 2;
            }
            switch (token) {
                case SET: case TELL: case ANSWER: case NOT: case VALUE: case HAS: case WITHOUT:
                    return 1;
                case FLOOR: case PUT:
                    return 2;
                default:
                    return 0;
            }
        }

        /** The instruction that does what the token says of its parts. */
        static int word(int token) {
            if (token >= SUM && token <= NOT) {
                return Word.SUM + token - SUM;
            }
            if (token >= VALUE && token <= FLOOR) {
                return Word.VALUE + token - VALUE;
            }
            if (token >= PUT && token <= UNION) {
                return Word.PUT + token - PUT;
            }
            switch (token) {
                case SET: return Word.TAKE;
                case SET_MAP: return Word.TAKE_MAP;
                case TELL: return Word.TELL;
                case CALL: case CALLED: return Word.CALL;
                case CONSTANT: return Word.PUSH;
                case VARIABLE: return Word.LOAD;
                case MAP: return Word.LOAD_MAP;
                case NO_KEYS: return Word.NO_KEYS;
                default: return NONE;
            }
        }
    }

    /** The words of the stack machine's instructions. */
    private static final class Word {
        static final int STOP = 0;
        static final int PUSH = 1;
        static final int LOAD = 2;
        static final int TAKE = 3;
        static final int SUM = 4;
        static final int DIFFERENCE = 5;
        static final int PRODUCT = 6;
        static final int QUOTIENT = 7;
        static final int REST = 8;
        static final int LESS = 9;
        static final int EQUAL = 10;
        static final int NOT = 11;
        static final int GO = 12;
        static final int GO_IF_ZERO = 13;
        static final int GO_IF_NOT_ZERO = 14;
        static final int TELL = 15;
        static final int CALL = 16;
        static final int BACK = 17;
        static final int DROP = 18;
        static final int LOAD_MAP = 19;
        static final int TAKE_MAP = 20;
        static final int NO_KEYS = 21;
        static final int PUT = 22;
        static final int WITHOUT = 23;
        static final int UNION = 24;
        static final int VALUE = 25;
        static final int HAS = 26;
        static final int SIZE = 27;
        static final int FLOOR = 28;
        static final int NEXT_KEY = 29;

        /** How many words the instruction has, its own and those behind it. */
        static int length(int word) {
            switch (word) {
                case PUSH: case LOAD: case TAKE: case GO: case GO_IF_ZERO: case GO_IF_NOT_ZERO:
                case CALL: case LOAD_MAP: case TAKE_MAP:
                    return 2;
                case NEXT_KEY:
                    return 4;
                default:
                    return 1;
            }
        }
    }

    /** The tokens that were fed and, once they are checked, what the compiler found and made of them. */
    private static final class Program {
        private static final int NOT_THERE = -1;

        private final int[] tokens = new int[MOST_TOKENS];
        /** Of a token that begins an S or E: the place behind all of it. */
        private final int[] behind = new int[MOST_TOKENS];
        /** Of an IF: the place of its ELSE, of its END if it has none. */
        private final int[] turn = new int[MOST_TOKENS];
        private final int[] words = new int[MOST_WORDS];
        private final int[] parameters = new int[FUNCTIONS];
        private final int[] firstWord = new int[FUNCTIONS];
        private final int[] firstToken = new int[FUNCTIONS];
        private int mainWord;
        private int mainToken;
        private int tokenCount;
        private int emitted;
        private boolean compiled;
        private int fault = NONE;

        void clear() {
            tokenCount = 0;
            forgetCode();
        }

        boolean add(int token) {
            if (tokenCount >= MOST_TOKENS) {
                return false;
            }
            Rows.set(tokens, tokenCount, token);
            tokenCount++;
            forgetCode();
            return true;
        }

        void forgetCode() {
            compiled = false;
            emitted = 0;
            fault = NONE;
            for (int f = 0; f < FUNCTIONS; f++) {
                parameters[f] = NOT_THERE;
            }
        }

        void accept() {
            compiled = true;
        }

        void refuse(int place) {
            fault = place;
        }

        int size() {
            return tokenCount;
        }

        boolean ready() {
            return compiled;
        }

        int faultPlace() {
            return fault;
        }

        boolean hasToken(int place) {
            return place >= 0 && place < tokenCount;
        }

        /** Without a token NONE, which can stand nowhere: so the end is as WRONG as such a token. */
        int token(int place) {
            return place >= 0 && place < tokenCount && place < MOST_TOKENS ? tokens[place] : NONE;
        }

        int behind(int place) {
            return Rows.at(behind, place);
        }

        void setBehind(int place, int end) {
            Rows.set(behind, place, end);
        }

        int turn(int place) {
            return Rows.at(turn, place);
        }

        void setTurn(int place, int end) {
            Rows.set(turn, place, end);
        }

        boolean hasFunction(int f) {
            return f >= 0 && f < FUNCTIONS && parameters[f] != NOT_THERE;
        }

        void addFunction(int f, int n, int place) {
            Rows.set(parameters, f, n);
            Rows.set(firstWord, f, emitted);
            Rows.set(firstToken, f, place);
        }

        void addMain(int place) {
            mainWord = emitted;
            mainToken = place;
        }

        int parameters(int f) {
            return hasFunction(f) ? Rows.at(parameters, f) : 0;
        }

        int firstWord(int f) {
            return Rows.at(firstWord, f);
        }

        int firstToken(int f) {
            return Rows.at(firstToken, f);
        }

        int mainWord() {
            return mainWord;
        }

        int mainToken() {
            return mainToken;
        }

        /** How many E stand behind the token at that place. */
        int numbers(int place) {
            int token = token(place);
            boolean calls = token == Token.CALL || token == Token.CALLED;
            return calls ? parameters(token(place + 1)) : Token.numbers(token);
        }

        /** Words beyond the last place are counted but not kept: faults behind them come first. */
        void emit(int word) {
            Rows.set(words, emitted, word);
            emitted++;
        }

        /** A word that is set later, when the place it tells is known. */
        int emitHole() {
            emit(0);
            return emitted - 1;
        }

        void fillHole(int hole) {
            Rows.set(words, hole, emitted);
        }

        int emitted() {
            return emitted;
        }

        int wordCount() {
            return compiled ? emitted : 0;
        }

        int word(int i) {
            return i >= 0 && i < wordCount() ? Rows.at(words, i) : NONE;
        }
    }

    /**
     * Checks the tokens from the left and emits the words on the way. Each part answers false at a
     * fault, and nothing is passed after that: so the next place is then the fault's.
     */
    private static final class Compiler {
        private final Program program;
        private int next;
        private int fault;
        private boolean inMain;

        Compiler(Program program) {
            this.program = program;
        }

        int translate() {
            program.forgetCode();
            next = 0;
            inMain = false;
            if (!functions() || !mainPart()) {
                program.refuse(next);
                return fault;
            }
            if (program.emitted() > MOST_WORDS) {
                return CODE_FULL;
            }
            program.accept();
            return program.wordCount();
        }

        private boolean fail(int why) {
            fault = why;
            return false;
        }

        private boolean functions() {
            // A ninth function is refused, so one turn more than there are functions is enough.
            for (int i = 0; i <= FUNCTIONS && program.token(next) == Token.FUNCTION; i++) {
                int place = next;
                next++;
                if (!newFunction() || !bare(MOST_PARAMETERS + 1)) {
                    return false;
                }
                program.addFunction(program.token(place + 1), program.token(place + 2), place);
                if (!block(0) || !passEnd()) {
                    return false;
                }
                program.emit(Word.PUSH);
                program.emit(0);
                program.emit(Word.BACK);
            }
            return true;
        }

        private boolean mainPart() {
            if (program.token(next) != Token.MAIN) {
                return fail(WRONG);
            }
            inMain = true;
            program.addMain(next);
            next++;
            if (!block(0) || !passEnd()) {
                return false;
            }
            program.emit(Word.STOP);
            return !program.hasToken(next) || fail(WRONG);
        }

        private boolean passEnd() {
            if (program.token(next) != Token.END) {
                return fail(WRONG);
            }
            next++;
            return true;
        }

        /** Passes a bare number from 0 to below the limit. */
        private boolean bare(int limit) {
            if (!program.hasToken(next)) {
                return fail(WRONG);
            }
            int number = program.token(next);
            if (number < 0 || number >= limit) {
                return fail(NUMBER);
            }
            next++;
            return true;
        }

        private boolean anyNumber() {
            if (!program.hasToken(next)) {
                return fail(WRONG);
            }
            next++;
            return true;
        }

        private boolean newFunction() {
            return !program.hasFunction(program.token(next)) ? bare(FUNCTIONS) : fail(TWICE);
        }

        private boolean knownFunction() {
            int f = program.token(next);
            if (program.hasFunction(f)) {
                next++;
                return true;
            }
            if (!program.hasToken(next)) {
                return fail(WRONG);
            }
            return fail(f < 0 || f >= FUNCTIONS ? NUMBER : UNKNOWN);
        }

        /** S*: what stands behind them is for the caller to judge. */
        private boolean block(int depth) {
            for (int i = 0; i < MOST_TOKENS && Token.isStatement(program.token(next)); i++) {
                if (!statement(depth)) {
                    return false;
                }
            }
            return true;
        }

        private boolean statement(int depth) {
            if (depth >= MOST_DEPTH) {
                return fail(DEEP);
            }
            int place = next;
            boolean good;
            switch (program.token(place)) {
                case Token.IF: good = choice(depth); break;
                case Token.WHILE: good = repetition(depth); break;
                case Token.EACH: good = eachKey(depth); break;
                case Token.ANSWER:
                    next++;
                    good = numberPart(depth + 1);
                    break;
                default: good = plain(depth); break;
            }
            if (good) {
                finishStatement(place);
            }
            return good;
        }

        private void finishStatement(int place) {
            program.setBehind(place, next);
            int token = program.token(place);
            if (token == Token.CALL) {
                program.emit(Word.DROP);
            } else if (token == Token.ANSWER && inMain) {
                program.emit(Word.DROP);
                program.emit(Word.STOP);
            } else if (token == Token.ANSWER) {
                program.emit(Word.BACK);
            }
        }

        private boolean choice(int depth) {
            int place = next;
            next++;
            if (!numberPart(depth + 1)) {
                return false;
            }
            program.emit(Word.GO_IF_ZERO);
            int hole = program.emitHole();
            if (!block(depth + 1)) {
                return false;
            }
            program.setTurn(place, next);
            if (program.token(next) == Token.ELSE) {
                next++;
                program.emit(Word.GO);
                int behindAll = program.emitHole();
                program.fillHole(hole);
                hole = behindAll;
                if (!block(depth + 1)) {
                    return false;
                }
            }
            program.fillHole(hole);
            return passEnd();
        }

        private boolean repetition(int depth) {
            next++;
            int again = program.emitted();
            if (!numberPart(depth + 1)) {
                return false;
            }
            program.emit(Word.GO_IF_ZERO);
            int hole = program.emitHole();
            return loopRest(depth, again, hole);
        }

        private boolean eachKey(int depth) {
            int place = next;
            next++;
            if (!bare(MAPS) || !bare(VARIABLES) || !bare(VARIABLES)) {
                return false;
            }
            program.emit(Word.LOAD_MAP);
            program.emit(program.token(place + 1));
            int again = program.emitted();
            program.emit(Word.NEXT_KEY);
            program.emit(program.token(place + 2));
            program.emit(program.token(place + 3));
            int hole = program.emitHole();
            return loopRest(depth, again, hole);
        }

        private boolean loopRest(int depth, int again, int hole) {
            if (!block(depth + 1) || !passEnd()) {
                return false;
            }
            program.emit(Word.GO);
            program.emit(again);
            program.fillHole(hole);
            return true;
        }

        private boolean numberPart(int depth) {
            int place = next;
            int token = program.token(place);
            if (!Token.isNumber(token)) {
                return fail(WRONG);
            }
            if (depth >= MOST_DEPTH) {
                return fail(DEEP);
            }
            boolean good = token == Token.AND || token == Token.OR ? shortcut(depth) : plain(depth);
            program.setBehind(place, next);
            return good;
        }

        private boolean mapPart(int depth) {
            if (!Token.isMap(program.token(next))) {
                return fail(WRONG);
            }
            if (depth >= MOST_DEPTH) {
                return fail(DEEP);
            }
            return plain(depth);
        }

        private boolean shortcut(int depth) {
            boolean and = program.token(next) == Token.AND;
            next++;
            if (!numberPart(depth + 1)) {
                return false;
            }
            program.emit(and ? Word.GO_IF_ZERO : Word.GO_IF_NOT_ZERO);
            int known = program.emitHole();
            if (!numberPart(depth + 1)) {
                return false;
            }
            program.emit(Word.NOT);
            program.emit(Word.NOT);
            program.emit(Word.GO);
            int behindAll = program.emitHole();
            program.fillHole(known);
            program.emit(Word.PUSH);
            program.emit(and ? 0 : 1);
            program.fillHole(behindAll);
            return true;
        }

        /** A token with at most one argument whose parts come in order, before its own instruction. */
        private boolean plain(int depth) {
            int place = next;
            int token = program.token(place);
            next++;
            if (!argument(token) || !parts(place, depth + 1)) {
                return false;
            }
            program.emit(Token.word(token));
            if (Token.arguments(token) > 0) {
                program.emit(program.token(place + 1));
            }
            return true;
        }

        private boolean argument(int token) {
            switch (token) {
                case Token.SET: case Token.VARIABLE: return bare(VARIABLES);
                case Token.SET_MAP: case Token.MAP: return bare(MAPS);
                case Token.CALL: case Token.CALLED: return knownFunction();
                case Token.CONSTANT: return anyNumber();
                default: return true;
            }
        }

        private boolean parts(int place, int depth) {
            int maps = Token.maps(program.token(place));
            for (int i = 0; i < maps; i++) {
                if (!mapPart(depth)) {
                    return false;
                }
            }
            int numbers = program.numbers(place);
            for (int i = 0; i < numbers; i++) {
                if (!numberPart(depth)) {
                    return false;
                }
            }
            return true;
        }
    }

    /** The heap: cells by number, 0 being the empty tree; those that can't be reached are given back. */
    private static final class Cells {
        /** What is kept never fills more than ROOM, and what is being made no more than that again. */
        private static final int TAKABLE = 2 * MOST_ROOM;
        /** Two cells of no heap, so that a tree being made hangs in one from its first cell on. */
        private static final int RESULT = TAKABLE + 1;
        private static final int PARTS = TAKABLE + 2;
        private static final int PLACES = TAKABLE + 3;
        static final long BEFORE_ALL_KEYS = -2147483648L;

        private final int[] keys = new int[PLACES];
        private final int[] values = new int[PLACES];
        private final int[] ranks = new int[PLACES];
        private final int[] lessers = new int[PLACES];
        private final int[] greaters = new int[PLACES];
        private final int[] free = new int[PLACES];
        private final int[] rounds = new int[PLACES];
        private final int[] waiting = new int[PLACES];
        private int freeCount;
        private int freeBefore;
        private int round;
        private int reached;
        private int seed;
        private int room;
        private int made;
        private boolean over;

        void furnish(int newSeed, int newRoom) {
            seed = newSeed;
            room = newRoom;
        }

        void giveBackAll() {
            beginReaching();
            giveBackUnreached();
        }

        int key(int cell) {
            return cell > 0 && cell < PLACES ? keys[cell] : 0;
        }

        int value(int cell) {
            return cell > 0 && cell < PLACES ? values[cell] : 0;
        }

        int rank(int cell) {
            return cell > 0 && cell < PLACES ? ranks[cell] : 0;
        }

        int lesser(int cell) {
            return cell > 0 && cell < PLACES ? lessers[cell] : 0;
        }

        int greater(int cell) {
            return cell > 0 && cell < PLACES ? greaters[cell] : 0;
        }

        /** The first bit is turned over, so that Java's order with sign is the ranks' without. */
        int rankOf(int key) {
            int x = key ^ seed;
            x = (x ^ (x >>> 16)) * 0x7feb352d;
            x = (x ^ (x >>> 15)) * 0x846ca68b;
            return x ^ (x >>> 16) ^ 0x80000000;
        }

        void beginMaking() {
            made = 0;
            over = false;
            freeBefore = freeCount;
        }

        /** A new cell; none (0) once ROOM were made: with one more, nothing of it will be kept. */
        int copy(int cell) {
            int fresh = made < room && freeCount > 0 && freeCount <= PLACES ? free[freeCount - 1] : 0;
            if (fresh < 1 || fresh >= PLACES || cell < 0 || cell >= PLACES) {
                over = true;
                return 0;
            }
            freeCount--;
            made++;
            keys[fresh] = keys[cell];
            values[fresh] = values[cell];
            ranks[fresh] = ranks[cell];
            lessers[fresh] = lessers[cell];
            greaters[fresh] = greaters[cell];
            return fresh;
        }

        int make(int key, int value, int lesser, int greater) {
            int cell = copy(0);
            if (cell > 0 && cell < PLACES) {
                keys[cell] = key;
                values[cell] = value;
                ranks[cell] = rankOf(key);
                lessers[cell] = lesser;
                greaters[cell] = greater;
            }
            return cell;
        }

        /** A hole is where a tree is still to come: the lesser tree of cell hole, the greater one of -hole. */
        void hang(int hole, int tree) {
            if (hole > 0 && hole < PLACES) {
                lessers[hole] = tree;
            } else if (hole < 0 && hole > -PLACES) {
                greaters[-hole] = tree;
            }
        }

        boolean over() {
            return over;
        }

        int made() {
            return made;
        }

        /** Whether all that was taken fits: then what is live of it does, and need not be counted. */
        boolean surelyFits() {
            return !over && TAKABLE - freeCount <= room;
        }

        boolean fits() {
            return !over && reached + made <= room;
        }

        /** Taking only lowers freeCount, so the cells that were taken still stand above it. */
        void undo() {
            freeCount = freeBefore;
        }

        void beginReaching() {
            round++;
            reached = 0;
        }

        int reached() {
            return reached;
        }

        /** Each cell waits once at most, as it waits only when it is reached first. */
        void reach(int tree) {
            int count = 0;
            int cell = tree;
            for (int i = 0; i < 3 * PLACES && (cell != 0 || count > 0); i++) {
                if (cell > 0 && cell < PLACES && count < PLACES && rounds[cell] != round) {
                    rounds[cell] = round;
                    reached++;
                    waiting[count] = greaters[cell];
                    count++;
                    cell = lessers[cell];
                } else if (count > 0) {
                    count--;
                    cell = waiting[count];
                } else {
                    cell = 0;
                }
            }
        }

        void giveBackUnreached() {
            freeCount = 0;
            for (int cell = TAKABLE; cell > 0; cell--) {
                if (rounds[cell] != round && freeCount < PLACES) {
                    free[freeCount] = cell;
                    freeCount++;
                }
            }
        }

        int size(int tree) {
            beginReaching();
            reach(tree);
            return reached;
        }

        int find(int tree, int key) {
            int cell = tree;
            for (int i = 0; i < PLACES && cell != 0 && key(cell) != key; i++) {
                cell = key < key(cell) ? lesser(cell) : greater(cell);
            }
            return cell;
        }

        /** The cell with the least key that is not less than the bound, 0 without one. */
        int least(int tree, long bound) {
            int best = 0;
            int cell = tree;
            for (int i = 0; i < PLACES && cell != 0; i++) {
                if (key(cell) >= bound) {
                    best = cell;
                    cell = lesser(cell);
                } else {
                    cell = greater(cell);
                }
            }
            return best;
        }

        /** The cell with the greatest key that is not greater than the bound, 0 without one. */
        int floor(int tree, int bound) {
            int best = 0;
            int cell = tree;
            for (int i = 0; i < PLACES && cell != 0; i++) {
                if (key(cell) <= bound) {
                    best = cell;
                    cell = greater(cell);
                } else {
                    cell = lesser(cell);
                }
            }
            return best;
        }

        int nth(int tree, int n) {
            if (n < 0 || n >= TAKABLE) {
                return 0;
            }
            int cell = least(tree, BEFORE_ALL_KEYS);
            for (int i = 0; i < n && cell != 0; i++) {
                cell = least(tree, key(cell) + 1L);
            }
            return cell;
        }
    }

    /**
     * PUT, WITHOUT and UNION. All is made from the top down, without recursion: a tree may be as deep
     * as ROOM. Where no more cells are to be had, holes are 0 and nothing is hung any more.
     */
    private static final class Trees {
        private static final int DEEPEST = MOST_ROOM + 1;
        /** Each union that is done makes a cell and leaves two at most: one more waits than cells are made. */
        private static final int UNIONS = MOST_ROOM + 2;

        private final Cells cells;
        private final int[] firsts = new int[UNIONS];
        private final int[] seconds = new int[UNIONS];
        private final int[] holes = new int[UNIONS];
        private int unionCount;
        private int hole;

        Trees(Cells cells) {
            this.cells = cells;
        }

        int put(int tree, int key, int value) {
            int rank = cells.rankOf(key);
            int rest = tree;
            hole = Cells.RESULT;
            for (int i = 0; i < DEEPEST && rest != 0 && cells.key(rest) != key && cells.rank(rest) > rank; i++) {
                rest = copyTowards(rest, key);
            }
            split(rest, key);
            cells.hang(hole, cells.make(key, value, cells.lesser(Cells.PARTS), cells.greater(Cells.PARTS)));
            return cells.lesser(Cells.RESULT);
        }

        int without(int tree, int key) {
            if (cells.find(tree, key) == 0) {
                return tree;
            }
            int rest = tree;
            hole = Cells.RESULT;
            for (int i = 0; i < DEEPEST && rest != 0 && cells.key(rest) != key; i++) {
                rest = copyTowards(rest, key);
            }
            join(cells.lesser(rest), cells.greater(rest));
            return cells.lesser(Cells.RESULT);
        }

        int union(int s, int t) {
            unionCount = 0;
            unite(s, t, Cells.RESULT);
            for (int i = 0; i < UNIONS && unionCount > 0 && !cells.over(); i++) {
                unionCount--;
                int first = Rows.at(firsts, unionCount);
                int second = Rows.at(seconds, unionCount);
                // In the other case the second can't have the first's top key: its top would be it, or above it.
                boolean secondAbove = cells.rank(second) >= cells.rank(first);
                int above = secondAbove ? second : first;
                int cell = cells.copy(above);
                cells.hang(Rows.at(holes, unionCount), cell);
                split(secondAbove ? first : second, cells.key(above));
                int lesser = cells.lesser(Cells.PARTS);
                int greater = cells.greater(Cells.PARTS);
                if (secondAbove) {
                    unite(lesser, cells.lesser(second), cell);
                    unite(greater, cells.greater(second), -cell);
                } else {
                    unite(cells.lesser(first), lesser, cell);
                    unite(cells.greater(first), greater, -cell);
                }
            }
            return cells.lesser(Cells.RESULT);
        }

        /** Hangs the union at once if one is empty, else keeps it to be done. */
        private void unite(int first, int second, int where) {
            if (first == 0 || second == 0) {
                cells.hang(where, first == 0 ? second : first);
            } else if (unionCount < UNIONS) {
                Rows.set(firsts, unionCount, first);
                Rows.set(seconds, unionCount, second);
                Rows.set(holes, unionCount, where);
                unionCount++;
            }
        }

        private int copyTowards(int cell, int key) {
            boolean less = key < cells.key(cell);
            int copy = cells.copy(cell);
            cells.hang(hole, copy);
            hole = less ? copy : -copy;
            return less ? cells.lesser(cell) : cells.greater(cell);
        }

        /** Leaves what is split off as the lesser and the greater tree of PARTS. */
        private void split(int tree, int key) {
            int lesserHole = Cells.PARTS;
            int greaterHole = -Cells.PARTS;
            int rest = tree;
            for (int i = 0; i < DEEPEST && rest != 0 && cells.key(rest) != key; i++) {
                int copy = cells.copy(rest);
                if (key < cells.key(rest)) {
                    cells.hang(greaterHole, copy);
                    greaterHole = copy;
                    rest = cells.lesser(rest);
                } else {
                    cells.hang(lesserHole, copy);
                    lesserHole = -copy;
                    rest = cells.greater(rest);
                }
            }
            cells.hang(lesserHole, cells.lesser(rest));
            cells.hang(greaterHole, cells.greater(rest));
        }

        private void join(int l, int r) {
            int left = l;
            int right = r;
            for (int i = 0; i < 2 * DEEPEST && left != 0 && right != 0; i++) {
                if (cells.rank(left) > cells.rank(right)) {
                    int copy = cells.copy(left);
                    cells.hang(hole, copy);
                    hole = -copy;
                    left = cells.greater(left);
                } else {
                    int copy = cells.copy(right);
                    cells.hang(hole, copy);
                    hole = copy;
                    right = cells.lesser(right);
                }
            }
            cells.hang(hole, left == 0 ? right : left);
        }
    }

    /** What both ways of doing a program work on: variables, maps, stacks, calls and what was told. */
    private static final class Store {
        private static final int FRAMES = MOST_CALLS + 1;
        /** At each depth of each call at most two parameters wait for a third, and one is at work. */
        private static final int NUMBERS = FRAMES * (2 * MOST_DEPTH + 2);
        private static final int TREES = FRAMES * (MOST_DEPTH + 1);

        private final Cells cells;
        private final Trees trees;
        private final int[] variables = new int[SHARED_VARIABLES + FRAMES * OWN_VARIABLES];
        private final int[] maps = new int[SHARED_MAPS + FRAMES * OWN_MAPS];
        private final int[] numberStack = new int[NUMBERS];
        private final int[] mapStack = new int[TREES];
        /** Of a map that is gone over: the least key that can come next. */
        private final long[] nextKeys = new long[TREES];
        private final int[] numberBases = new int[FRAMES];
        private final int[] mapBases = new int[FRAMES];
        private final int[] backs = new int[FRAMES];
        private final int[] told = new int[MOST_TOLD];
        private int numberTop;
        private int mapTop;
        private int calls;
        private int toldCount;
        private int steps;
        private int mostMade;

        Store(Cells cells) {
            this.cells = cells;
            trees = new Trees(cells);
        }

        void clear() {
            Rows.zero(variables);
            Rows.zero(maps);
            forgetCalls();
            toldCount = 0;
            steps = 0;
            mostMade = 0;
        }

        void begin(int arg) {
            clear();
            cells.giveBackAll();
            Rows.set(variables, 0, arg);
        }

        /** Leaves what is of all, and so only the cells of those maps live. */
        void forgetCalls() {
            calls = 0;
            numberTop = 0;
            mapTop = 0;
            for (int m = SHARED_MAPS; m < maps.length; m++) {
                maps[m] = 0;
            }
        }

        int steps() {
            return steps;
        }

        void addStep() {
            steps++;
        }

        int calls() {
            return calls;
        }

        int mostMade() {
            return mostMade;
        }

        int toldCount() {
            return toldCount;
        }

        int told(int i) {
            return i >= 0 && i < toldCount ? Rows.at(told, i) : 0;
        }

        private int variablePlace(int v) {
            return v < SHARED_VARIABLES ? v : v + calls * OWN_VARIABLES;
        }

        private int mapPlace(int m) {
            return m < SHARED_MAPS ? m : m + calls * OWN_MAPS;
        }

        int number(int v) {
            return Rows.at(variables, variablePlace(v));
        }

        void setNumber(int v, int x) {
            Rows.set(variables, variablePlace(v), x);
        }

        int tree(int m) {
            return Rows.at(maps, mapPlace(m));
        }

        void push(int x) {
            if (numberTop < NUMBERS) {
                Rows.set(numberStack, numberTop, x);
                numberTop++;
            }
        }

        int pop() {
            if (numberTop > 0) {
                numberTop--;
            }
            return Rows.at(numberStack, numberTop);
        }

        void pushMap(int tree) {
            if (mapTop < TREES) {
                Rows.set(mapStack, mapTop, tree);
                Rows.set(nextKeys, mapTop, Cells.BEFORE_ALL_KEYS);
                mapTop++;
            }
        }

        int popMap() {
            if (mapTop > 0) {
                mapTop--;
            }
            return Rows.at(mapStack, mapTop);
        }

        /** The cell of the next key of the map on top that is gone over, 0 without one. */
        int comingCell() {
            return cells.least(Rows.at(mapStack, mapTop - 1), Rows.at(nextKeys, mapTop - 1));
        }

        void comeTo(int cell, int v, int w) {
            int key = cells.key(cell);
            Rows.set(nextKeys, mapTop - 1, key + 1L);
            setNumber(v, key);
            setNumber(w, cells.value(cell));
        }

        /** Begins a call with its parameters from the stack; false if one more can't be under way. */
        boolean enter(int parameters, int back) {
            if (calls >= MOST_CALLS) {
                return false;
            }
            calls++;
            for (int v = 0; v < OWN_VARIABLES; v++) {
                setNumber(SHARED_VARIABLES + v, 0);
            }
            for (int m = 0; m < OWN_MAPS; m++) {
                Rows.set(maps, mapPlace(SHARED_MAPS + m), 0);
            }
            for (int p = parameters - 1; p >= 0; p--) {
                setNumber(SHARED_VARIABLES + p, pop());
            }
            Rows.set(numberBases, calls, numberTop);
            Rows.set(mapBases, calls, mapTop);
            Rows.set(backs, calls, back);
            return true;
        }

        /** Ends the call, and with it the maps that it still went over. */
        int leave(int answer) {
            numberTop = Rows.at(numberBases, calls);
            mapTop = Rows.at(mapBases, calls);
            int back = Rows.at(backs, calls);
            if (calls > 0) {
                calls--;
            }
            push(answer);
            return back;
        }

        /** Does an instruction that goes on with the next one: how the run ends by it, or GOES_ON. */
        int apply(int word, int argument) {
            if (word >= Word.SUM && word <= Word.EQUAL) {
                return applyToNumbers(word);
            }
            if (word >= Word.PUT && word <= Word.UNION) {
                return changeMap(word);
            }
            switch (word) {
                case Word.PUSH: push(argument); break;
                case Word.LOAD: push(number(argument)); break;
                case Word.TAKE: setNumber(argument, pop()); break;
                case Word.NOT: push(pop() == 0 ? 1 : 0); break;
                case Word.TELL: return tell(pop());
                case Word.DROP: pop(); break;
                case Word.LOAD_MAP: pushMap(tree(argument)); break;
                case Word.TAKE_MAP: Rows.set(maps, mapPlace(argument), popMap()); break;
                case Word.NO_KEYS: pushMap(0); break;
                default: askMap(word); break;
            }
            return GOES_ON;
        }

        private int tell(int x) {
            if (toldCount >= MOST_TOLD) {
                return OUT_FULL;
            }
            Rows.set(told, toldCount, x);
            toldCount++;
            return GOES_ON;
        }

        private int applyToNumbers(int word) {
            int b = pop();
            int a = pop();
            switch (word) {
                case Word.SUM: push(a + b); break;
                case Word.DIFFERENCE: push(a - b); break;
                case Word.PRODUCT: push(a * b); break;
                case Word.LESS: push(a < b ? 1 : 0); break;
                case Word.EQUAL: push(a == b ? 1 : 0); break;
                default:
                    if (b == 0) {
                        return DIV_ZERO;
                    }
                    push(word == Word.QUOTIENT ? a / b : a % b);
                    break;
            }
            return GOES_ON;
        }

        private void askMap(int word) {
            switch (word) {
                case Word.VALUE: push(cells.value(cells.find(popMap(), pop()))); break;
                case Word.HAS: push(cells.find(popMap(), pop()) == 0 ? 0 : 1); break;
                case Word.SIZE: push(cells.size(popMap())); break;
                case Word.FLOOR: pushFloor(); break;
                default: break;
            }
        }

        private void pushFloor() {
            int otherwise = pop();
            int cell = cells.floor(popMap(), pop());
            push(cell == 0 ? otherwise : cells.key(cell));
        }

        /** What is worked on stays on the stacks till the new map is kept: till then it is live. */
        private int changeMap(int word) {
            int first = Rows.at(numberStack, numberTop - 2);
            int last = Rows.at(numberStack, numberTop - 1);
            int below = Rows.at(mapStack, mapTop - 2);
            int top = Rows.at(mapStack, mapTop - 1);
            int tree;
            cells.beginMaking();
            switch (word) {
                case Word.PUT: tree = trees.put(top, first, last); break;
                case Word.WITHOUT: tree = trees.without(top, last); break;
                default: tree = trees.union(below, top); break;
            }
            if (!keep(tree)) {
                return OUT_OF_HEAP;
            }
            takeParts(word);
            pushMap(tree);
            return GOES_ON;
        }

        private void takeParts(int word) {
            popMap();
            switch (word) {
                case Word.PUT: pop(); pop(); break;
                case Word.WITHOUT: pop(); break;
                default: popMap(); break;
            }
        }

        /** False, and all that was made for the tree is given back, if it has no room beside what is live. */
        private boolean keep(int tree) {
            if (!cells.surelyFits()) {
                reachAll();
                if (!cells.fits()) {
                    cells.undo();
                    return false;
                }
                cells.reach(tree);
                cells.giveBackUnreached();
            }
            mostMade = cells.made() > mostMade ? cells.made() : mostMade;
            return true;
        }

        int live() {
            reachAll();
            return cells.reached();
        }

        private void reachAll() {
            cells.beginReaching();
            int mapCount = SHARED_MAPS + (calls + 1) * OWN_MAPS;
            for (int i = 0; i < mapCount; i++) {
                cells.reach(Rows.at(maps, i));
            }
            for (int i = 0; i < mapTop; i++) {
                cells.reach(Rows.at(mapStack, i));
            }
        }
    }

    /** The stack machine: does the words. */
    private static final class Runner {
        private final Program program;
        private final Store store;
        private boolean begun;
        private int next;
        private int end = GOES_ON;

        Runner(Program program, Store store) {
            this.program = program;
            this.store = store;
        }

        void begin() {
            begun = true;
            next = program.mainWord();
            end = GOES_ON;
        }

        void drop() {
            begun = false;
        }

        boolean there() {
            return begun;
        }

        int nextWord() {
            return next;
        }

        int end() {
            return end;
        }

        int goOn(int n) {
            for (int i = 0; i < n && end == GOES_ON; i++) {
                store.addStep();
                step();
            }
            return end;
        }

        private void step() {
            int place = next;
            int word = program.word(place);
            int argument = program.word(place + 1);
            next = place + Word.length(word);
            switch (word) {
                case Word.STOP: end = DONE; break;
                case Word.GO: next = argument; break;
                case Word.GO_IF_ZERO: goIf(store.pop() == 0, argument); break;
                case Word.GO_IF_NOT_ZERO: goIf(store.pop() != 0, argument); break;
                case Word.CALL: call(argument); break;
                case Word.BACK: next = store.leave(store.pop()); break;
                case Word.NEXT_KEY: nextKey(place); break;
                default: end = store.apply(word, argument); break;
            }
        }

        private void goIf(boolean so, int place) {
            if (so) {
                next = place;
            }
        }

        private void call(int f) {
            if (store.enter(program.parameters(f), next)) {
                next = program.firstWord(f);
            } else {
                end = STACK_FULL;
            }
        }

        private void nextKey(int place) {
            int cell = store.comingCell();
            if (cell == 0) {
                store.popMap();
                next = program.word(place + 3);
            } else {
                store.comeTo(cell, program.word(place + 1), program.word(place + 2));
            }
        }
    }

    /**
     * Does the program straight from its tokens. What is begun and not at its end stands in a row of
     * its own: calls within calls would go deeper than Java's own calls may.
     */
    private static final class Walker {
        /** In each call under way: its function and what is begun within it. */
        private static final int MOST_OPEN = (MOST_CALLS + 1) * (MOST_DEPTH + 1);
        /** Far above what 5000 steps need, each of which has a few turns. */
        private static final int MOST_TURNS = 1000000;

        private final Program program;
        private final Store store;
        private final int[] places = new int[MOST_OPEN];
        /** How far each is: what the next turn at it has to do. */
        private final int[] stages = new int[MOST_OPEN];
        private int open;
        private int next;
        private int granted;
        private boolean stopped;
        private int end;

        Walker(Program program, Store store) {
            this.program = program;
            this.store = store;
        }

        int walk(int n) {
            granted = n;
            stopped = false;
            end = GOES_ON;
            open = 0;
            openAt(program.mainToken());
            next = program.mainToken() + 1;
            for (int i = 0; i < MOST_TURNS && end == GOES_ON && !stopped; i++) {
                int place = Rows.at(places, open - 1);
                int stage = Rows.at(stages, open - 1);
                switch (program.token(place)) {
                    case Token.FUNCTION: case Token.MAIN: body(); break;
                    case Token.IF: choice(place, stage); break;
                    case Token.WHILE: repetition(place, stage); break;
                    case Token.EACH: eachKey(place, stage); break;
                    case Token.ANSWER: answer(stage); break;
                    case Token.CALL: case Token.CALLED: call(place, stage); break;
                    case Token.AND: case Token.OR: shortcut(place, stage); break;
                    default: plain(place, stage); break;
                }
            }
            return end;
        }

        private void openAt(int place) {
            if (open < MOST_OPEN) {
                Rows.set(places, open, place);
                Rows.set(stages, open, 0);
                open++;
            }
        }

        private void close() {
            open--;
        }

        private void closeBehind(int place) {
            next = program.behind(place);
            close();
        }

        private void setStage(int stage) {
            Rows.set(stages, open - 1, stage);
        }

        private boolean mayStep() {
            if (store.steps() >= granted) {
                stopped = true;
                return false;
            }
            store.addStep();
            return true;
        }

        /** Begins the S, E or M at the next place. */
        private void beginNext() {
            if (mayStep()) {
                openAt(next);
                next += 1 + Token.arguments(program.token(next));
            }
        }

        private void body() {
            if (program.token(next) == Token.END) {
                comeBack(0);
            } else {
                beginNext();
            }
        }

        private void comeBack(int answer) {
            if (store.calls() == 0) {
                end = DONE;
                return;
            }
            open = store.leave(answer);
            next = program.behind(Rows.at(places, open - 1));
        }

        private void beginPart(int stageBehind) {
            setStage(stageBehind);
            beginNext();
        }

        private void choice(int place, int stage) {
            if (stage == 0) {
                beginPart(1);
            } else if (stage == 1) {
                setStage(2);
                if (store.pop() == 0) {
                    int turn = program.turn(place);
                    next = program.token(turn) == Token.ELSE ? turn + 1 : turn;
                }
            } else if (Token.isStatement(program.token(next))) {
                beginNext();
            } else {
                closeBehind(place);
            }
        }

        private void repetition(int place, int stage) {
            if (stage == 0) {
                beginPart(1);
            } else if (stage == 1) {
                if (store.pop() == 0) {
                    closeBehind(place);
                } else {
                    setStage(2);
                }
            } else if (program.token(next) == Token.END) {
                next = place + 1;
                setStage(0);
            } else {
                beginNext();
            }
        }

        private void eachKey(int place, int stage) {
            if (stage == 0) {
                store.pushMap(store.tree(program.token(place + 1)));
                setStage(1);
            } else if (stage == 1) {
                comeToKey(place);
            } else if (program.token(next) == Token.END) {
                setStage(1);
            } else {
                beginNext();
            }
        }

        private void comeToKey(int place) {
            int cell = store.comingCell();
            if (cell == 0) {
                store.popMap();
                closeBehind(place);
            } else if (mayStep()) {
                store.comeTo(cell, program.token(place + 2), program.token(place + 3));
                next = place + 1 + Token.arguments(Token.EACH);
                setStage(2);
            }
        }

        private void answer(int stage) {
            if (stage == 0) {
                beginPart(1);
            } else {
                comeBack(store.pop());
            }
        }

        private void call(int place, int stage) {
            int parameters = program.numbers(place);
            if (stage < parameters) {
                beginPart(stage + 1);
            } else if (stage == parameters) {
                setStage(stage + 1);
                enter(program.token(place + 1), parameters);
            } else {
                if (program.token(place) == Token.CALL) {
                    store.pop();
                }
                close();
            }
        }

        private void enter(int f, int parameters) {
            if (!store.enter(parameters, open)) {
                end = STACK_FULL;
                return;
            }
            int place = program.firstToken(f);
            openAt(place);
            next = place + 3;
        }

        private void shortcut(int place, int stage) {
            if (stage == 0) {
                beginPart(1);
                return;
            }
            int known = program.token(place) == Token.AND ? 0 : 1;
            int truth = store.pop() == 0 ? 0 : 1;
            if (stage == 1 && truth != known) {
                beginPart(2);
            } else {
                store.push(truth);
                closeBehind(place);
            }
        }

        private void plain(int place, int stage) {
            int token = program.token(place);
            if (stage < Token.maps(token) + Token.numbers(token)) {
                beginPart(stage + 1);
            } else {
                end = store.apply(Token.word(token), program.token(place + 1));
                close();
            }
        }
    }
}
