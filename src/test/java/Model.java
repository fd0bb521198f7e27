import java.util.ArrayList;
import java.util.Collections;
import java.util.IdentityHashMap;
import java.util.List;
import java.util.Set;

/**
 * The document once more, written straight from its words with recursion, exceptions and Java's
 * collections: slow, and as unlike MapMachine as can be, so that the two can be held against one another.
 */
final class Model {
    private static final int NONE = -1, BAD = -2, FULL = -3;
    private static final int WRONG = -11, NUMBER = -12, TWICE = -13, UNKNOWN = -14, DEEP = -15, CODE_FULL = -16;
    private static final int DONE = 0, OUT_OF_FUEL = 1, DIV_ZERO = 2, STACK_FULL = 3, OUT_FULL = 4, OUT_OF_HEAP = 5, NOT_READY = 6;

    private record Cell(int key, int value, Cell lesser, Cell greater) { }

    private record Pair(Cell lesser, Cell greater) { }

    /** A map on the stack, with the keys that are still to come when it is gone over. */
    private static final class Held {
        final Cell tree;
        List<Cell> toCome;

        Held(Cell tree) {
            this.tree = tree;
        }
    }

    private static final class Frame {
        final int[] variables = new int[6];
        final Cell[] maps = new Cell[2];
        int back;
        int base;
    }

    /** An S, E or M with what stands behind it. */
    private static final class Part {
        int token;
        int[] arguments = new int[0];
        final List<Part> parts = new ArrayList<>();
        List<Part> first = new ArrayList<>();
        List<Part> second;
    }

    private static final class Function {
        int parameters;
        int firstWord;
        List<Part> body;
    }

    private static final class Stop extends RuntimeException {
        private static final long serialVersionUID = 1;
        final int why;

        Stop(int why) {
            super(null, null, false, false);
            this.why = why;
        }
    }

    private static final class Answer extends RuntimeException {
        private static final long serialVersionUID = 1;
        final int answer;

        Answer(int answer) {
            super(null, null, false, false);
            this.answer = answer;
        }
    }

    private final List<Integer> tokens = new ArrayList<>();
    private int seed;
    private int room = 300;
    private int place = NONE;
    private List<Integer> words;
    private Function[] functions;
    private final List<Integer> order = new ArrayList<>();
    private Function main;
    private boolean hasRun;
    private int end;
    private int next;
    private int steps;
    private int most;
    private int[] variables = new int[8];
    private Cell[] maps = new Cell[4];
    private final List<Integer> told = new ArrayList<>();
    private final List<Object> stack = new ArrayList<>();
    private final List<Frame> frames = new ArrayList<>();
    private int reading;
    private int granted;
    private int made;

    int init(int newSeed, int newRoom) {
        if (newRoom < 1 || newRoom > 400) {
            return BAD;
        }
        seed = newSeed;
        room = newRoom;
        tokens.clear();
        place = NONE;
        words = null;
        begin(0);
        noRun();
        return 0;
    }

    int feed(int token) {
        if (tokens.size() == 700) {
            return FULL;
        }
        tokens.add(token);
        words = null;
        place = NONE;
        noRun();
        return tokens.size();
    }

    private void noRun() {
        hasRun = false;
        frames.clear();
        stack.clear();
    }

    // ---- checking

    int compile() {
        noRun();
        words = null;
        place = NONE;
        reading = 0;
        functions = new Function[8];
        order.clear();
        List<Integer> fresh = new ArrayList<>();
        try {
            while (peek() == 10) {
                readFunction();
            }
            if (peek() != 11) {
                throw new Stop(WRONG);
            }
            reading++;
            main = new Function();
            main.body = readBlock(0);
            readEnd();
            if (reading < tokens.size()) {
                throw new Stop(WRONG);
            }
        } catch (Stop fault) {
            place = reading;
            return fault.why;
        }
        emitProgram(fresh);
        if (fresh.size() > 1500) {
            return CODE_FULL;
        }
        words = fresh;
        return words.size();
    }

    private long peek() {
        return reading < tokens.size() ? tokens.get(reading) : Long.MIN_VALUE;
    }

    private int readNumber(int limit) {
        if (reading >= tokens.size()) {
            throw new Stop(WRONG);
        }
        int number = tokens.get(reading);
        if (number < 0 || number >= limit) {
            throw new Stop(NUMBER);
        }
        reading++;
        return number;
    }

    private void readEnd() {
        if (peek() != 0) {
            throw new Stop(WRONG);
        }
        reading++;
    }

    private void readFunction() {
        reading++;
        int f = readNumber(8);
        if (functions[f] != null) {
            reading--;
            throw new Stop(TWICE);
        }
        Function function = new Function();
        function.parameters = readNumber(4);
        functions[f] = function;
        order.add(f);
        function.body = readBlock(0);
        readEnd();
    }

    private List<Part> readBlock(int depth) {
        List<Part> block = new ArrayList<>();
        while (peek() >= 1 && peek() <= 9 && peek() != 4) {
            block.add(read(depth));
        }
        return block;
    }

    private Part readE(int depth) {
        if (peek() < 20 || peek() > 36) {
            throw new Stop(WRONG);
        }
        return read(depth);
    }

    private Part readM(int depth) {
        if (peek() < 40 || peek() > 44) {
            throw new Stop(WRONG);
        }
        return read(depth);
    }

    private Part read(int depth) {
        if (depth == 16) {
            throw new Stop(DEEP);
        }
        Part part = new Part();
        part.token = tokens.get(reading++);
        String form = form(part.token);
        List<Integer> arguments = new ArrayList<>();
        for (char kind : form.toCharArray()) {
            switch (kind) {
                case 'v' -> arguments.add(readNumber(14));
                case 'm' -> arguments.add(readNumber(6));
                case 'n' -> {
                    if (reading >= tokens.size()) {
                        throw new Stop(WRONG);
                    }
                    arguments.add(tokens.get(reading++));
                }
                case 'f' -> {
                    int f = readNumber(8);
                    if (functions[f] == null) {
                        reading--;
                        throw new Stop(UNKNOWN);
                    }
                    arguments.add(f);
                    for (int i = 0; i < functions[f].parameters; i++) {
                        part.parts.add(readE(depth + 1));
                    }
                }
                case 'E' -> part.parts.add(readE(depth + 1));
                case 'M' -> part.parts.add(readM(depth + 1));
                case 'S' -> part.first = readBlock(depth + 1);
                case '4' -> {
                    if (peek() == 4) {
                        reading++;
                        part.second = readBlock(depth + 1);
                    }
                }
                case '0' -> readEnd();
                default -> throw new IllegalStateException();
            }
        }
        part.arguments = arguments.stream().mapToInt(i -> i).toArray();
        return part;
    }

    private static String form(int token) {
        return switch (token) {
            case 1 -> "vE";
            case 2 -> "mM";
            case 3 -> "ES40";
            case 5 -> "ES0";
            case 6 -> "mvvS0";
            case 7, 9, 29 -> "E";
            case 8, 36 -> "f";
            case 20 -> "n";
            case 21 -> "v";
            case 22, 23, 24, 25, 26, 27, 28, 30, 31 -> "EE";
            case 32, 33, 43 -> "ME";
            case 34 -> "M";
            case 35, 42 -> "MEE";
            case 40 -> "m";
            case 41 -> "";
            case 44 -> "MM";
            default -> throw new IllegalStateException("form of " + token);
        };
    }

    // ---- compiling

    private void emitProgram(List<Integer> code) {
        for (int f : order) {
            functions[f].firstWord = code.size();
            for (Part s : functions[f].body) {
                emit(s, code, false);
            }
            code.addAll(List.of(1, 0, 17));
        }
        main.firstWord = code.size();
        for (Part s : main.body) {
            emit(s, code, true);
        }
        code.add(0);
    }

    private int hole(List<Integer> code, int word) {
        code.add(word);
        code.add(-77);
        return code.size() - 1;
    }

    private void emit(Part p, List<Integer> code, boolean inMain) {
        int x;
        int y;
        switch (p.token) {
            case 30, 31 -> {
                emit(p.parts.get(0), code, inMain);
                x = hole(code, p.token == 30 ? 13 : 14);
                emit(p.parts.get(1), code, inMain);
                code.add(11);
                code.add(11);
                y = hole(code, 12);
                code.set(x, code.size());
                code.add(1);
                code.add(p.token == 30 ? 0 : 1);
                code.set(y, code.size());
            }
            case 3 -> {
                emit(p.parts.get(0), code, inMain);
                x = hole(code, 13);
                emitAll(p.first, code, inMain);
                if (p.second == null) {
                    code.set(x, code.size());
                } else {
                    y = hole(code, 12);
                    code.set(x, code.size());
                    emitAll(p.second, code, inMain);
                    code.set(y, code.size());
                }
            }
            case 5 -> {
                x = code.size();
                emit(p.parts.get(0), code, inMain);
                y = hole(code, 13);
                emitAll(p.first, code, inMain);
                code.add(12);
                code.add(x);
                code.set(y, code.size());
            }
            case 6 -> {
                code.add(19);
                code.add(p.arguments[0]);
                x = code.size();
                code.add(29);
                code.add(p.arguments[1]);
                y = hole(code, p.arguments[2]);
                emitAll(p.first, code, inMain);
                code.add(12);
                code.add(x);
                code.set(y, code.size());
            }
            case 9 -> {
                emit(p.parts.get(0), code, inMain);
                code.addAll(inMain ? List.of(18, 0) : List.of(17));
            }
            default -> {
                emitAll(p.parts, code, inMain);
                code.add(own(p.token));
                for (int argument : p.arguments) {
                    code.add(argument);
                }
                if (p.token == 8) {
                    code.add(18);
                }
            }
        }
    }

    private void emitAll(List<Part> parts, List<Integer> code, boolean inMain) {
        for (Part p : parts) {
            emit(p, code, inMain);
        }
    }

    private static int own(int token) {
        return switch (token) {
            case 20 -> 1;
            case 21 -> 2;
            case 1 -> 3;
            case 22 -> 4;
            case 23 -> 5;
            case 24 -> 6;
            case 25 -> 7;
            case 26 -> 8;
            case 27 -> 9;
            case 28 -> 10;
            case 29 -> 11;
            case 7 -> 15;
            case 8, 36 -> 16;
            case 40 -> 19;
            case 2 -> 20;
            case 41 -> 21;
            case 42 -> 22;
            case 43 -> 23;
            case 44 -> 24;
            case 32 -> 25;
            case 33 -> 26;
            case 34 -> 27;
            case 35 -> 28;
            default -> throw new IllegalStateException("own of " + token);
        };
    }

    int place() {
        return place;
    }

    int code(int i) {
        return words != null && i >= 0 && i < words.size() ? words.get(i) : NONE;
    }

    // ---- trees

    private long rank(int key) {
        int x = key ^ seed;
        x = x ^ (x >>> 16);
        x = x * 0x7feb352d;
        x = x ^ (x >>> 15);
        x = x * 0x846ca68b;
        x = x ^ (x >>> 16);
        return x & 0xffffffffL;
    }

    private Cell cell(int key, int value, Cell lesser, Cell greater) {
        made++;
        return new Cell(key, value, lesser, greater);
    }

    private Cell put(Cell t, int k, int v) {
        if (t == null) {
            return cell(k, v, null, null);
        }
        if (k == t.key) {
            return cell(k, v, t.lesser, t.greater);
        }
        if (rank(k) > rank(t.key)) {
            Pair two = split(t, k);
            return cell(k, v, two.lesser, two.greater);
        }
        return k < t.key ? cell(t.key, t.value, put(t.lesser, k, v), t.greater)
            : cell(t.key, t.value, t.lesser, put(t.greater, k, v));
    }

    private Pair split(Cell t, int k) {
        if (t == null) {
            return new Pair(null, null);
        }
        if (k == t.key) {
            return new Pair(t.lesser, t.greater);
        }
        if (k < t.key) {
            Pair two = split(t.lesser, k);
            return new Pair(two.lesser, cell(t.key, t.value, two.greater, t.greater));
        }
        Pair two = split(t.greater, k);
        return new Pair(cell(t.key, t.value, t.lesser, two.lesser), two.greater);
    }

    private Cell without(Cell t, int k) {
        if (find(t, k) == null) {
            return t;
        }
        if (k == t.key) {
            return joined(t.lesser, t.greater);
        }
        return k < t.key ? cell(t.key, t.value, without(t.lesser, k), t.greater)
            : cell(t.key, t.value, t.lesser, without(t.greater, k));
    }

    private Cell joined(Cell l, Cell r) {
        if (l == null) {
            return r;
        }
        if (r == null) {
            return l;
        }
        return rank(l.key) > rank(r.key) ? cell(l.key, l.value, l.lesser, joined(l.greater, r))
            : cell(r.key, r.value, joined(l, r.lesser), r.greater);
    }

    private Cell union(Cell s, Cell t) {
        if (s == null) {
            return t;
        }
        if (t == null) {
            return s;
        }
        if (rank(t.key) >= rank(s.key)) {
            Pair two = split(s, t.key);
            return cell(t.key, t.value, union(two.lesser, t.lesser), union(two.greater, t.greater));
        }
        Pair two = split(t, s.key);
        Cell same = find(t, s.key);
        return cell(s.key, same == null ? s.value : same.value, union(s.lesser, two.lesser), union(s.greater, two.greater));
    }

    private static Cell find(Cell t, int k) {
        return t == null || t.key == k ? t : find(k < t.key ? t.lesser : t.greater, k);
    }

    private static void inOrder(Cell t, List<Cell> to) {
        if (t != null) {
            inOrder(t.lesser, to);
            to.add(t);
            inOrder(t.greater, to);
        }
    }

    private static List<Cell> inOrder(Cell t) {
        List<Cell> all = new ArrayList<>();
        inOrder(t, all);
        return all;
    }

    // ---- what is live

    private static void reach(Cell t, Set<Cell> to) {
        if (t != null && to.add(t)) {
            reach(t.lesser, to);
            reach(t.greater, to);
        }
    }

    private int live() {
        Set<Cell> all = Collections.newSetFromMap(new IdentityHashMap<>());
        for (Cell t : maps) {
            reach(t, all);
        }
        for (Frame f : frames) {
            reach(f.maps[0], all);
            reach(f.maps[1], all);
        }
        for (Object o : stack) {
            if (o instanceof Held h) {
                reach(h.tree, all);
            }
        }
        return all.size();
    }

    // ---- what both ways share

    private void begin(int arg) {
        variables = new int[8];
        variables[0] = arg;
        maps = new Cell[4];
        told.clear();
        stack.clear();
        frames.clear();
        frames.add(new Frame());
        steps = 0;
        most = 0;
    }

    private Frame frame() {
        return frames.get(frames.size() - 1);
    }

    private int getVariable(int v) {
        return v < 8 ? variables[v] : frame().variables[v - 8];
    }

    private void setVariable(int v, int x) {
        if (v < 8) {
            variables[v] = x;
        } else {
            frame().variables[v - 8] = x;
        }
    }

    private Cell getMap(int m) {
        return m < 4 ? maps[m] : frame().maps[m - 4];
    }

    private void setMap(int m, Cell t) {
        if (m < 4) {
            maps[m] = t;
        } else {
            frame().maps[m - 4] = t;
        }
    }

    private Object pop() {
        return stack.remove(stack.size() - 1);
    }

    private int popNumber() {
        return (Integer) pop();
    }

    private Cell popTree() {
        return ((Held) pop()).tree;
    }

    private void keepOrStop() {
        if (live() + made > room) {
            throw new Stop(OUT_OF_HEAP);
        }
        most = Math.max(most, made);
    }

    /** Does the instruction with what is on the stack. */
    private void apply(int word, int argument) {
        int top = stack.size() - 1;
        switch (word) {
            case 1 -> stack.add(argument);
            case 2 -> stack.add(getVariable(argument));
            case 3 -> setVariable(argument, popNumber());
            case 4, 5, 6, 7, 8, 9, 10 -> {
                int b = popNumber();
                int a = popNumber();
                stack.add(calculated(word, a, b));
            }
            case 11 -> stack.add(popNumber() == 0 ? 1 : 0);
            case 15 -> {
                if (told.size() == 300) {
                    throw new Stop(OUT_FULL);
                }
                told.add(popNumber());
            }
            case 18 -> pop();
            case 19 -> stack.add(new Held(getMap(argument)));
            case 20 -> setMap(argument, popTree());
            case 21 -> stack.add(new Held(null));
            case 22 -> {
                made = 0;
                Cell t = put(((Held) stack.get(top - 2)).tree, (Integer) stack.get(top - 1), (Integer) stack.get(top));
                keepOrStop();
                pop();
                pop();
                pop();
                stack.add(new Held(t));
            }
            case 23 -> {
                made = 0;
                Cell t = without(((Held) stack.get(top - 1)).tree, (Integer) stack.get(top));
                keepOrStop();
                pop();
                pop();
                stack.add(new Held(t));
            }
            case 24 -> {
                made = 0;
                Cell t = union(((Held) stack.get(top - 1)).tree, ((Held) stack.get(top)).tree);
                keepOrStop();
                pop();
                pop();
                stack.add(new Held(t));
            }
            case 25 -> {
                int k = popNumber();
                Cell found = find(popTree(), k);
                stack.add(found == null ? 0 : found.value);
            }
            case 26 -> {
                int k = popNumber();
                stack.add(find(popTree(), k) == null ? 0 : 1);
            }
            case 27 -> stack.add(inOrder(popTree()).size());
            case 28 -> {
                int otherwise = popNumber();
                int bound = popNumber();
                int best = otherwise;
                for (Cell c : inOrder(popTree())) {
                    best = c.key <= bound ? c.key : best;
                }
                stack.add(best);
            }
            default -> throw new IllegalStateException("word " + word);
        }
    }

    private static int calculated(int word, int a, int b) {
        if ((word == 7 || word == 8) && b == 0) {
            throw new Stop(DIV_ZERO);
        }
        return switch (word) {
            case 4 -> (int) ((long) a + b);
            case 5 -> (int) ((long) a - b);
            case 6 -> (int) ((long) a * b);
            case 7 -> (int) ((long) a / b);
            case 8 -> (int) ((long) a % b);
            case 9 -> a < b ? 1 : 0;
            default -> a == b ? 1 : 0;
        };
    }

    private void enter(int f, int back) {
        if (frames.size() == 25) {
            throw new Stop(STACK_FULL);
        }
        Frame fresh = new Frame();
        for (int i = functions[f].parameters - 1; i >= 0; i--) {
            fresh.variables[i] = popNumber();
        }
        fresh.back = back;
        fresh.base = stack.size();
        frames.add(fresh);
    }

    private int leave(int answer) {
        Frame left = frames.remove(frames.size() - 1);
        while (stack.size() > left.base) {
            pop();
        }
        stack.add(answer);
        return left.back;
    }

    private Cell nextKey() {
        Held top = (Held) stack.get(stack.size() - 1);
        if (top.toCome == null) {
            top.toCome = inOrder(top.tree);
        }
        return top.toCome.isEmpty() ? null : top.toCome.get(0);
    }

    private void comeTo(Cell c, int v, int w) {
        ((Held) stack.get(stack.size() - 1)).toCome.remove(0);
        setVariable(v, c.key);
        setVariable(w, c.value);
    }

    // ---- the stack machine

    int start(int arg) {
        if (words == null) {
            return NOT_READY;
        }
        begin(arg);
        hasRun = true;
        end = OUT_OF_FUEL;
        next = main.firstWord;
        return 0;
    }

    int run(int n) {
        if (n < 1 || n > 5000) {
            return BAD;
        }
        if (!hasRun) {
            return NOT_READY;
        }
        for (int i = 0; i < n && end == OUT_OF_FUEL; i++) {
            steps++;
            try {
                step();
            } catch (Stop stop) {
                end = stop.why;
            }
        }
        return end;
    }

    private int fetch() {
        return words.get(next++);
    }

    private void step() {
        int word = fetch();
        switch (word) {
            case 0 -> throw new Stop(DONE);
            case 12 -> next = fetch();
            case 13, 14 -> {
                int to = fetch();
                if ((popNumber() == 0) == (word == 13)) {
                    next = to;
                }
            }
            case 16 -> {
                int f = fetch();
                enter(f, next);
                next = functions[f].firstWord;
            }
            case 17 -> next = leave(popNumber());
            case 29 -> {
                int v = fetch();
                int w = fetch();
                int to = fetch();
                Cell c = nextKey();
                if (c == null) {
                    pop();
                    next = to;
                } else {
                    comeTo(c, v, w);
                }
            }
            case 1, 2, 3, 19, 20 -> apply(word, fetch());
            default -> apply(word, 0);
        }
    }

    // ---- straight from the tokens

    int interpret(int arg, int n) {
        if (n < 1 || n > 5000) {
            return BAD;
        }
        if (words == null) {
            return NOT_READY;
        }
        begin(arg);
        granted = n;
        int how = DONE;
        try {
            doAll(main.body);
        } catch (Answer answer) {
            how = DONE;
        } catch (Stop stop) {
            how = stop.why;
        }
        noRun();
        return how;
    }

    private void stepOrStop() {
        if (steps == granted) {
            throw new Stop(OUT_OF_FUEL);
        }
        steps++;
    }

    private void doAll(List<Part> parts) {
        for (Part p : parts) {
            doPart(p);
        }
    }

    private int worked(Part p) {
        doPart(p);
        return popNumber();
    }

    private void doPart(Part p) {
        stepOrStop();
        switch (p.token) {
            case 3 -> {
                if (worked(p.parts.get(0)) != 0) {
                    doAll(p.first);
                } else if (p.second != null) {
                    doAll(p.second);
                }
            }
            case 5 -> {
                while (worked(p.parts.get(0)) != 0) {
                    doAll(p.first);
                }
            }
            case 6 -> {
                stack.add(new Held(getMap(p.arguments[0])));
                for (Cell c = nextKey(); c != null; c = nextKey()) {
                    stepOrStop();
                    comeTo(c, p.arguments[1], p.arguments[2]);
                    doAll(p.first);
                }
                pop();
            }
            case 9 -> throw new Answer(worked(p.parts.get(0)));
            case 30 -> {
                int known = worked(p.parts.get(0)) == 0 ? 0 : worked(p.parts.get(1));
                stack.add(known == 0 ? 0 : 1);
            }
            case 31 -> {
                int known = worked(p.parts.get(0)) != 0 ? 1 : worked(p.parts.get(1));
                stack.add(known == 0 ? 0 : 1);
            }
            case 8, 36 -> {
                doAll(p.parts);
                enter(p.arguments[0], 0);
                int answer = 0;
                try {
                    doAll(functions[p.arguments[0]].body);
                } catch (Answer a) {
                    answer = a.answer;
                }
                leave(answer);
                if (p.token == 8) {
                    pop();
                }
            }
            default -> {
                doAll(p.parts);
                apply(own(p.token), p.arguments.length == 0 ? 0 : p.arguments[0]);
            }
        }
    }

    // ---- what can be asked

    int outSize() {
        return told.size();
    }

    int out(int i) {
        return i >= 0 && i < told.size() ? told.get(i) : 0;
    }

    int variable(int v) {
        return v >= 0 && v < 8 ? variables[v] : 0;
    }

    int map(int m, int what, int i) {
        if (m < 0 || m > 3 || what < 0 || what > 3) {
            return BAD;
        }
        List<Cell> all = inOrder(maps[m]);
        if (what == 0) {
            return all.size();
        }
        if (what == 3) {
            return maps[m] == null ? 0 : maps[m].key;
        }
        if (i < 0 || i >= all.size()) {
            return 0;
        }
        return what == 1 ? all.get(i).key : all.get(i).value;
    }

    int count(int what) {
        return switch (what) {
            case 0 -> tokens.size();
            case 1 -> words == null ? 0 : words.size();
            case 2 -> steps;
            case 3 -> live();
            case 4 -> most;
            case 5 -> hasRun ? frames.size() - 1 : 0;
            case 6 -> hasRun ? next : NONE;
            case 7 -> hasRun ? end : NOT_READY;
            default -> BAD;
        };
    }
}
