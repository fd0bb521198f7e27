import java.util.ArrayList;
import java.util.List;
import java.util.Random;

/** Makes programs by chance, from a seed: most of them are right, and do something. */
final class Programs {
    private final Random random;
    private final List<Integer> tokens = new ArrayList<>();
    private final int[] parameters = new int[8];
    private final int most;
    private final int deepest;
    private final boolean wideKeys;
    private boolean inMain;

    private Programs(Random random, int most) {
        this.random = random;
        this.most = most;
        this.deepest = random.nextInt(10) == 0 ? 17 : 4 + random.nextInt(11);
        this.wideKeys = random.nextInt(3) == 0;
    }

    static int[] make(Random random, int most) {
        Programs maker = new Programs(random, most);
        if (random.nextInt(30) == 0) {
            maker.manyWords();
        } else {
            maker.program();
        }
        if (random.nextInt(6) == 0) {
            maker.spoil();
        }
        return maker.tokens.stream().mapToInt(i -> i).limit(700).toArray();
    }

    private void program() {
        java.util.Arrays.fill(parameters, -1);
        int functions = random.nextInt(4);
        for (int i = 0; i < functions; i++) {
            int f = random.nextInt(8);
            if (parameters[f] < 0) {
                parameters[f] = random.nextInt(4);
                add(10, f, parameters[f]);
                block(0, 1 + random.nextInt(4));
                add(0);
            }
        }
        inMain = true;
        add(11);
        if (random.nextInt(4) != 0) {
            fill();
        }
        for (int i = 0; i < 60 && tokens.size() < most && random.nextInt(12) != 0; i++) {
            statement(0);
        }
        add(0);
    }

    /** Some 1200 to 2100 words: each 30 and 31 becomes eight. */
    private void manyWords() {
        add(11);
        int statements = 9 + random.nextInt(8);
        for (int i = 0; i < statements; i++) {
            add(7);
            for (int j = 0; j < 13; j++) {
                add(30 + random.nextInt(2));
            }
            for (int j = 0; j < 14; j++) {
                add(20, random.nextInt(2));
            }
        }
        add(0);
    }

    /** A loop that puts many keys: 1 7 20 n, 5 21 7, 2 m 42 40 m E E, 1 7 23 21 7 20 1, 0. */
    private void fill() {
        int m = random.nextInt(6);
        int counter = random.nextBoolean() ? 7 : 13;
        add(1, counter, 20, random.nextInt(random.nextInt(4) == 0 ? 420 : 40), 5, 21, counter);
        add(2, m, 42, 40, m);
        if (random.nextBoolean()) {
            add(24, 21, counter, 20, wideKeys ? random.nextInt() : 1 + random.nextInt(5));
        } else {
            add(26, 24, 21, counter, 20, 7919, 20, 1 + random.nextInt(400));
        }
        add(21, counter);
        if (random.nextInt(3) == 0) {
            statement(1);
        }
        add(1, counter, 23, 21, counter, 20, 1, 0);
    }

    private void add(int... more) {
        for (int token : more) {
            tokens.add(token);
        }
    }

    private int variable() {
        return random.nextInt(14);
    }

    private int map() {
        return random.nextInt(6);
    }

    private int number() {
        switch (random.nextInt(12)) {
            case 0: return random.nextInt();
            case 1: return Integer.MIN_VALUE;
            case 2: return Integer.MAX_VALUE;
            case 3: return -1;
            case 4: return 0;
            default: return wideKeys && random.nextInt(3) == 0 ? random.nextInt() : random.nextInt(24) - 2;
        }
    }

    private int knownFunction() {
        int f = random.nextInt(8);
        for (int i = 0; i < 8; i++) {
            if (parameters[(f + i) % 8] >= 0) {
                return (f + i) % 8;
            }
        }
        return -1;
    }

    private boolean tight(int depth) {
        return depth >= deepest - 1 || tokens.size() >= most;
    }

    private void block(int depth, int n) {
        for (int i = 0; i < n; i++) {
            statement(depth);
        }
    }

    private void statement(int depth) {
        int kind = tight(depth + 1) ? random.nextInt(2) : random.nextInt(13);
        switch (kind) {
            case 0: add(1, variable()); number(depth + 1); break;
            case 1: add(7); number(depth + 1); break;
            case 2: case 3: case 4: add(2, map()); map(depth + 1); break;
            case 5: case 6: choice(depth); break;
            case 7: loop(depth); break;
            case 8: case 9: add(6, map(), variable(), variable()); block(depth + 1, random.nextInt(3)); add(0); break;
            case 10: case 11: call(8, depth); break;
            default:
                if (!inMain || random.nextInt(6) == 0) {
                    add(9);
                    number(depth + 1);
                }
                break;
        }
    }

    private void choice(int depth) {
        add(3);
        number(depth + 1);
        block(depth + 1, random.nextInt(3));
        if (random.nextBoolean()) {
            add(4);
            block(depth + 1, random.nextInt(3));
        }
        add(0);
    }

    private void loop(int depth) {
        if (random.nextInt(4) == 0) {
            add(5);
            number(depth + 1);
            block(depth + 1, random.nextInt(3));
            add(0);
            return;
        }
        int v = random.nextBoolean() ? 4 + random.nextInt(3) : 11 + random.nextInt(3);
        add(1, v, 20, random.nextInt(8), 5, 21, v);
        block(depth + 1, random.nextInt(3));
        add(1, v, 23, 21, v, 20, 1, 0);
    }

    private void call(int token, int depth) {
        int f = knownFunction();
        if (f < 0) {
            if (token == 8) {
                add(7);
            }
            add(20, number());
            return;
        }
        add(token, f);
        for (int i = 0; i < parameters[f]; i++) {
            number(depth + 1);
        }
    }

    private void number(int depth) {
        if (tight(depth)) {
            if (random.nextBoolean()) {
                add(20, number());
            } else {
                add(21, variable());
            }
            return;
        }
        switch (random.nextInt(16)) {
            case 0: case 1: case 2: add(20, number()); break;
            case 3: case 4: case 5: add(21, variable()); break;
            case 6: case 7: case 8: add(22 + random.nextInt(7)); number(depth + 1); number(depth + 1); break;
            case 9: add(29); number(depth + 1); break;
            case 10: add(30 + random.nextInt(2)); number(depth + 1); number(depth + 1); break;
            case 11: add(32 + random.nextInt(2)); map(depth + 1); number(depth + 1); break;
            case 12: add(34); map(depth + 1); break;
            case 13: add(35); map(depth + 1); number(depth + 1); number(depth + 1); break;
            default: call(36, depth); break;
        }
    }

    private void map(int depth) {
        if (tight(depth)) {
            add(40, map());
            return;
        }
        switch (random.nextInt(9)) {
            case 0: case 1: add(40, map()); break;
            case 2: add(41); break;
            case 3: case 4: case 5: add(42); map(depth + 1); number(depth + 1); number(depth + 1); break;
            case 6: add(43); map(depth + 1); number(depth + 1); break;
            default: add(44); map(depth + 1); map(depth + 1); break;
        }
    }

    private void spoil() {
        int at = random.nextInt(tokens.size());
        switch (random.nextInt(7)) {
            case 0: tokens.set(at, random.nextInt(48) - 2); break;
            case 1: tokens.remove(at); break;
            case 2: tokens.add(at, random.nextInt(48) - 2); break;
            case 3: tokens.add(random.nextInt(48) - 2); break;
            case 4: tokens.addAll(0, List.of(10, random.nextInt(8), 0, 0)); break;
            case 5: tokens.addAll(tokens.size() - 1, List.of(8, random.nextInt(8))); break;
            default: tokens.subList(at, tokens.size()).clear(); break;
        }
    }
}
