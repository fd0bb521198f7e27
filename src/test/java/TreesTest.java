import java.util.ArrayList;
import java.util.Arrays;
import java.util.List;

/** Trees as deep as they have keys, and heaps that are just wide enough: TREES, THE HEAP, LIVE, count(3), count(4). */
public final class TreesTest {
    /** Puts its three parameters as keys into map 0, with themselves as values. */
    private static final int[] PUT_THREE = {10, 0, 3, 2, 0, 42, 42, 42, 40, 0, 21, 8, 21, 8, 21, 9, 21, 9, 21, 10, 21, 10, 0};

    public static void main(String[] args) {
        chains();
        byChance();
        justWideEnough();
        uselessCellsCount();
        liveMaps();
        Check.finish();
    }

    private static long rank(int key) {
        int x = key;
        x = (x ^ (x >>> 16)) * 0x7feb352d;
        x = (x ^ (x >>> 15)) * 0x846ca68b;
        return (x ^ (x >>> 16)) & 0xffffffffL;
    }

    /** The longest row of growing keys below n whose ranks grow (or fall) too: with seed 0 its tree is a chain. */
    private static int[] chain(int n, boolean growing) {
        long[] ends = new long[n];
        int[] endKeys = new int[n];
        int[] before = new int[n];
        int length = 0;
        for (int key = 0; key < n; key++) {
            long rank = growing ? rank(key) : -rank(key);
            int at = Arrays.binarySearch(ends, 0, length, rank);
            int place = at < 0 ? -at - 1 : at;
            ends[place] = rank;
            endKeys[place] = key;
            before[key] = place == 0 ? -1 : endKeys[place - 1];
            length = Math.max(length, place + 1);
        }
        int[] keys = new int[length];
        int key = endKeys[length - 1];
        for (int i = length - 1; i >= 0; i--) {
            keys[i] = key;
            key = before[key];
        }
        return keys;
    }

    private static void reverse(int[] row) {
        for (int i = 0; i < row.length / 2; i++) {
            int other = row[row.length - 1 - i];
            row[row.length - 1 - i] = row[i];
            row[i] = other;
        }
    }

    private static int[] programWith(int[] keys, int... rest) {
        List<Integer> tokens = new ArrayList<>();
        for (int token : PUT_THREE) {
            tokens.add(token);
        }
        tokens.add(11);
        for (int i = 0; i + 2 < keys.length && tokens.size() + 9 + rest.length <= 700; i += 3) {
            tokens.addAll(List.of(8, 0, 20, keys[i], 20, keys[i + 1], 20, keys[i + 2]));
        }
        for (int token : rest) {
            tokens.add(token);
        }
        tokens.add(0);
        return tokens.stream().mapToInt(i -> i).toArray();
    }

    private static void doBothWays(Both both) {
        both.start(0);
        for (int i = 0; i < 20 && both.run(500) == MapMachine.OUT_OF_FUEL; i++) {
            both.askCounts();
        }
        both.askAll();
        both.interpret(0, 5000);
        both.askAll();
    }

    private static void chains() {
        for (int i = 0; i < 4; i++) {
            boolean growing = i % 2 == 0;
            int[] keys = chain(30000, growing);
            Check.holds("a chain of over 240 keys", keys.length > 240);
            // The greatest rank last: then each PUT makes few cells, else each makes the whole chain anew.
            boolean cheap = i < 2;
            if (growing != cheap) {
                reverse(keys);
            }
            Both both = new Both("chain " + i);
            both.init(0, 400);
            // 7 size; 2 1 without a key; 2 2 union of both; 7 greatest key; keys told one by one
            both.feed(programWith(keys, 7, 34, 40, 0, 2, 1, 43, 40, 0, 20, keys[100], 2, 0, 40, 1, 2, 2, 41,
                7, 35, 40, 0, 20, 1 << 20, 20, -1, 6, 0, 1, 2, 7, 21, 1, 0, 2, 3, 44, 40, 0, 42, 41, 20, 5, 20, 6));
            Check.holds("it compiles", both.compile() > 0);
            doBothWays(both);
            Check.holds("a deep tree", both.machine.map(0, 0, 0) > (cheap ? 200 : 90));
        }
    }

    /**
     * For ever: variable 1 goes on by chance, 2 is the key; map 0 gets or loses the key, map 1 is seldom
     * their union, or starts anew, or loses the greatest key that is not greater than 2.
     */
    private static int[] changing(int keys) {
        return new int[] {11, 1, 1, 21, 0, 5, 20, 1,
            1, 1, 22, 24, 21, 1, 20, 1103515245, 20, 12345,
            1, 2, 26, 25, 21, 1, 20, 65536, 20, keys,
            1, 3, 26, 25, 21, 1, 20, 1024, 20, 32,
            3, 27, 21, 3, 20, 0, 2, 0, 43, 40, 0, 35, 40, 0, 21, 2, 21, 2,
            4, 2, 0, 42, 40, 0, 21, 2, 21, 1, 0,
            3, 28, 21, 3, 20, 9, 2, 1, 44, 40, 1, 40, 0, 0,
            3, 28, 21, 3, 20, 10, 2, 0, 44, 40, 0, 40, 1, 0,
            3, 28, 21, 3, 20, 11, 2, 1, 41, 0,
            3, 27, 20, 20, 21, 3, 2, 1, 43, 40, 1, 35, 40, 1, 21, 2, 21, 2, 0,
            3, 28, 21, 3, 20, 12, 7, 34, 40, 1, 7, 32, 40, 0, 21, 2, 0,
            0, 0};
    }

    private static void byChance() {
        int[] ends = new int[7];
        for (int i = 0; i < 60; i++) {
            Both both = new Both("by chance " + i);
            both.init(i * 7919, i % 3 == 0 ? 8 + i : 400);
            both.feed(changing(3 + i * 2));
            Check.holds("it compiles", both.compile() > 0);
            both.start(i);
            for (int k = 0; k < 12; k++) {
                both.run(499);
                both.askAll();
            }
            ends[both.machine.count(7)]++;
            for (int n = 10; n <= 5000; n += 499) {
                both.interpret(i, n);
                both.askAll();
            }
        }
        Check.holds("some go on, some heaps are full", ends[MapMachine.OUT_OF_FUEL] > 20 && ends[MapMachine.OUT_OF_HEAP] > 5);
    }

    /** With seed 0 and keys 1 .. 10 put in order: which ROOM is enough is the Model's to say, for each ROOM. */
    private static void justWideEnough() {
        for (int room = 1; room <= 60; room++) {
            Both both = new Both("room " + room);
            both.init(room % 3, room);
            both.feed(11, 1, 1, 20, 10, 5, 21, 1, 2, 0, 42, 40, 0, 24, 21, 1, 20, 3, 21, 1, 1, 1, 23, 21, 1, 20, 1, 0,
                6, 0, 2, 3, 2, 1, 42, 40, 1, 22, 21, 2, 20, 1, 21, 3, 0,
                2, 2, 44, 40, 0, 40, 1, 2, 2, 44, 40, 2, 40, 2, 2, 0, 41, 2, 3, 43, 40, 2, 20, 6, 0);
            both.compile();
            doBothWays(both);
        }
    }

    /** Two maps of one key each, worked out by hand: a union makes a cell for the top and SPLITs the other. */
    private static void uselessCellsCount() {
        boolean twoIsAbove = rank(2) > rank(1);
        MapMachine x = new MapMachine();
        int[] program = {11, 2, 0, 42, 41, 20, 1, 20, 10, 2, 1, 42, 41, 20, 2, 20, 20, 2, 2, 44, 40, 0, 40, 1, 0};
        for (int token : program) {
            x.feed(token);
        }
        Check.due("words of two maps and their union", x.compile(), 24);
        x.start(0);
        Check.due("run", x.run(100), MapMachine.DONE);
        // the top anew, and the other one anew where the SPLIT copies it
        Check.due("count(4) of a union of 1 and 1", x.count(4), 2);
        Check.due("count(3)", x.count(3), 4);
        Check.due("map(2, 3, 0)", x.map(2, 3, 0), twoIsAbove ? 2 : 1);
    }

    private static void liveMaps() {
        // MAIN'S own map 4, a map that is gone over when 9 ends MAIN, and one that nobody has any more
        MapMachine x = new MapMachine();
        int[] program = {11, 2, 4, 42, 41, 20, 1, 20, 1, 2, 0, 42, 41, 20, 2, 20, 2, 6, 0, 1, 2, 2, 0, 41, 9, 20, 5, 0, 0};
        for (int token : program) {
            x.feed(token);
        }
        Check.holds("it compiles", x.compile() > 0);
        x.start(0);
        Check.due("run", x.run(100), MapMachine.DONE);
        Check.due("count(3) at the end within 6", x.count(3), 2);
        Check.due("map(0, 0, 0)", x.map(0, 0, 0), 0);
        Check.due("interpret", x.interpret(0, 100), MapMachine.DONE);
        Check.due("count(3) without a run", x.count(3), 0);
        x.start(0);
        Check.due("run again", x.run(100), MapMachine.DONE);
        Check.due("compile", x.compile() > 0 ? 1 : 0, 1);
        Check.due("count(3) when the run is gone", x.count(3), 0);
    }
}
