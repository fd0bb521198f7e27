/** Machines with a program in them. */
final class Feed {
    private Feed() { }

    static MapMachine fed(int... tokens) {
        MapMachine x = new MapMachine();
        add(x, tokens);
        return x;
    }

    static void add(MapMachine x, int... tokens) {
        for (int token : tokens) {
            x.feed(token);
        }
    }

    static MapMachine compiled(int... tokens) {
        MapMachine x = fed(tokens);
        Check.holds("the program compiles", x.compile() > 0);
        return x;
    }

    /** The rows one behind the other. */
    static int[] joined(int[]... rows) {
        int length = 0;
        for (int[] row : rows) {
            length += row.length;
        }
        int[] all = new int[length];
        int at = 0;
        for (int[] row : rows) {
            System.arraycopy(row, 0, all, at, row.length);
            at += row.length;
        }
        return all;
    }

    static int[] repeated(int times, int... row) {
        int[] all = new int[times * row.length];
        for (int i = 0; i < all.length; i++) {
            all[i] = row[i % row.length];
        }
        return all;
    }
}
