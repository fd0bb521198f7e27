import java.util.ArrayList;
import java.util.List;

/** 24 calls under way, in each of them as much begun and waiting as 16 tokens one in the other can have. */
public final class StacksTest {
    /** g of three answers 8 + 3 * 9 + 7 * 10. */
    private static final int[] MIXING = {10, 1, 3, 9, 22, 21, 8, 22, 24, 20, 3, 21, 9, 24, 20, 7, 21, 10, 0};

    public static void main(String[] args) {
        numbersWaiting();
        mapsWaiting();
        loopsInLoops();
        nothingStays();
        Check.finish();
    }

    private static int[] program(List<Integer> function, int... mainPart) {
        List<Integer> tokens = new ArrayList<>();
        for (int token : MIXING) {
            tokens.add(token);
        }
        tokens.addAll(function);
        for (int token : mainPart) {
            tokens.add(token);
        }
        return tokens.stream().mapToInt(i -> i).toArray();
    }

    private static void doBothWays(String name, int[] tokens) {
        Both both = new Both(name);
        both.init(9, 400);
        both.feed(tokens);
        Check.holds(name + " compiles", both.compile() > 0);
        both.askCode();
        for (int arg = 22; arg <= 24; arg++) {
            both.start(arg);
            int end = both.run(700);
            for (int i = 0; i < 60 && end == MapMachine.OUT_OF_FUEL; i++) {
                both.askCounts();
                end = both.run(700);
            }
            Check.due(name + " with " + arg, end, arg == 24 ? MapMachine.STACK_FULL : MapMachine.DONE);
            both.askAll();
            end = both.interpret(arg, 5000);
            Check.due(name + " straight with " + arg, end, arg == 24 ? MapMachine.STACK_FULL : MapMachine.DONE);
            both.askAll();
        }
    }

    /** f of n: n times deeper, at each depth two parameters wait for the third; told at the end. */
    private static void numbersWaiting() {
        List<Integer> f = new ArrayList<>(List.of(10, 0, 1, 3, 21, 8, 7));
        for (int depth = 2; depth <= 12; depth++) {
            f.addAll(List.of(36, 1, 21, 8, 20, depth));
        }
        f.addAll(List.of(36, 0, 23, 21, 8, 20, 1, 0, 9, 22, 21, 8, 20, 100, 0));
        doBothWays("numbers waiting", program(f, 11, 8, 0, 21, 0, 0));
    }

    /** At each depth a map waits for its union with another one, in which f is called. */
    private static void mapsWaiting() {
        List<Integer> f = new ArrayList<>(List.of(10, 0, 1, 3, 21, 8, 2, 4));
        for (int depth = 2; depth <= 11; depth++) {
            f.addAll(List.of(44, 42, 41, 20, depth, 21, 8));
        }
        f.addAll(List.of(42, 41, 21, 8, 36, 0, 23, 21, 8, 20, 1, 7, 34, 40, 4, 0, 9, 21, 8, 0));
        doBothWays("maps waiting", program(f, 11, 8, 0, 21, 0, 0));
    }

    /** A call within twelve loops, each over a map of one key, in each of 24 calls. */
    private static void loopsInLoops() {
        List<Integer> f = new ArrayList<>(List.of(10, 0, 1, 3, 21, 8));
        for (int depth = 1; depth <= 12; depth++) {
            f.addAll(List.of(6, 0, 9, 10));
        }
        f.addAll(List.of(8, 0, 23, 21, 8, 20, 1, 7, 21, 8));
        for (int depth = 1; depth <= 12; depth++) {
            f.add(0);
        }
        f.addAll(List.of(4, 9, 20, 1, 0, 0));
        doBothWays("loops in loops", program(f, 11, 2, 0, 42, 41, 20, 5, 20, 6, 8, 0, 21, 0, 0));
    }

    /** A thousand calls, answers and loops left by 9, one behind the other: none leaves anything behind. */
    private static void nothingStays() {
        Both both = new Both("one behind the other");
        both.feed(10, 0, 1, 6, 0, 9, 10, 9, 21, 8, 0, 0,
            11, 2, 0, 42, 41, 20, 5, 20, 6, 1, 1, 20, 350, 5, 21, 1,
            8, 0, 20, 1, 8, 0, 20, 2, 8, 0, 20, 3, 1, 1, 23, 21, 1, 20, 1, 0,
            7, 22, 20, 1, 22, 20, 2, 36, 0, 20, 4, 7, 34, 40, 0, 0);
        Check.holds("it compiles", both.compile() > 0);
        both.start(0);
        for (int i = 0; i < 5; i++) {
            both.run(5000);
            both.askCounts();
        }
        Check.due("end", both.machine.count(7), MapMachine.DONE);
        both.askAll();
        both.interpret(0, 5000);
        both.askAll();
        MapMachine x = Feed.compiled(10, 0, 0, 0, 11, 1, 1, 20, 440, 5, 21, 1, 8, 0, 8, 0, 8, 0, 1, 1, 23, 21, 1, 20, 1, 0,
            7, 22, 20, 1, 20, 2, 0);
        Check.due("interpret", x.interpret(0, 5000), MapMachine.DONE);
        Check.due("told", x.out(0), 3);
        // 1 20, 5, in each round 21, 8 8 8, 1 23 21 20; 21 once more, 7 22 20 20
        Check.due("steps", x.count(2), 2 + 1 + 440 * 8 + 1 + 4);
    }
}
