/**
 * The sentences of 'Terms' on TREES and THE HEAP: a test for each edge that they name, with cells counted by
 * hand. All with seed 0, where the ranks of the keys that are used stand in this order (see BY_RANK): 0, 9, 7,
 * 12, 6, 14, 10, 2, 4, 8, 15. A tree is written as its top, with its trees in brackets: 8(4(2, ), ).
 */
public final class HeapEdgesTest {
    private static final int LEAST = -2147483648;
    private static final int GREATEST = 2147483647;

    /** From the least rank to the greatest, with seed 0; from GREATEST on ranks are negative numbers, were they with sign. */
    private static final int[] BY_RANK = {0, 11, 18, 19, 16, 20, 13, 9, 17, 3, -3, 5, -1, 1, GREATEST, 7, -2, 12, 6, 14, 10,
        LEAST, 2, 4, 8, 15};

    /** 8(4(2, ), ): 1, 2 and 2 cells are made for it, 4 are the most that it needs at once. */
    private static final int[] THREE_LESSER = fill(0, 2, 4, 8);
    /** 2( , 10( , 14)): likewise. */
    private static final int[] THREE_GREATER = fill(0, 14, 10, 2);

    public static void main(String[] args) {
        ranks();
        ranksWithSeeds();
        shapeHangsOnKeysAlone();
        putWithoutTree();
        putTopKey();
        putAboveTop();
        putBelowTop();
        withoutKeyThatIsNotIn();
        withoutTopKey();
        withoutKeyBelow();
        joinedBoth();
        unionWithEmpty();
        unionOfSameTop();
        unionAbove();
        splitOfNoUse();
        moreCellsThanRoom();
        roomOfOne();
        allVariablesAreLive();
        callsUnderWayAreLive();
        callsThatCameBackAreNot();
        workedOutAndNotUsedYet();
        usedMapsAreNotLive();
        goneOverIsLive();
        goneOverIsGivenBack();
        withTheirMaps();
        eachCountsOnce();
        givenBack();
        nothingOfItIsDone();
        roomToTheLastCell();
        mostCells();
        Check.finish();
    }

    private static int[] row(int... row) {
        return row;
    }

    /** 2 m 42 40 m k (ten times k), for each key. */
    private static int[] fill(int m, int... keys) {
        int[] all = {};
        for (int key : keys) {
            all = Feed.joined(all, row(2, m, 42, 40, m, 20, key, 20, 10 * key));
        }
        return all;
    }

    /** A cell more that is live, for each map: map 0 with another value for its top key. */
    private static int[] pad(int top, int... maps) {
        int[] all = {};
        for (int m : maps) {
            all = Feed.joined(all, row(2, m, 42, 40, 0, 20, top, 20, 1));
        }
        return all;
    }

    private static int[] mainPart(int[]... statements) {
        return Feed.joined(row(11), Feed.joined(statements), row(0));
    }

    /** The statement makes n cells beside so many that are live: just enough ROOM, and one less. */
    private static Edge makes(String sentence, int live, int n, int liveBehind, int[] before, int... statement) {
        int[] program = mainPart(before, row(7, 20, 1), statement, row(7, 20, 2));
        if (n > 0 && live + n > 1) {
            Edge.of(sentence + ", a cell too few").init(0, live + n - 1).program(program)
                .ends(MapMachine.OUT_OF_HEAP, 0).tells(1).keyCount(3, 0);
        }
        return Edge.of(sentence).init(0, live + n).program(program).done().tells(1, 2).live(liveBehind, liveBehind);
    }

    // ---- ranks

    private static void topOfTwo(String sentence, int seed, int lower, int higher) {
        Edge.of(sentence).init(seed, 300).program(mainPart(fill(0, lower, higher), fill(1, higher, lower)))
            .done().top(0, higher).top(1, higher).keyCount(0, 2).keyCount(1, 2);
    }

    /** "The RANK of a key .. without sign. In a tree the key with the greatest rank is at the top." */
    private static void ranks() {
        for (int i = 0; i + 1 < BY_RANK.length; i++) {
            topOfTwo("rank of " + BY_RANK[i] + " and " + BY_RANK[i + 1], 0, BY_RANK[i], BY_RANK[i + 1]);
        }
        topOfTwo("rank without sign", 0, 1, 7);
        topOfTwo("rank without sign", 0, 0, 15);
        // 214d4dbc and 214d7a10, 81f22c63 and 81f2821f, 5ae40d77 and 5ae40f92, aad71672 and aad7d78b
        topOfTwo("ranks that are close", 0, 1198, 808);
        topOfTwo("ranks that are close", 0, 987, 330);
        topOfTwo("ranks that are close", 0, 798, 1135);
        topOfTwo("ranks that are close", 0, 501, 868);
    }

    /** "x is it xor the seed" */
    private static void ranksWithSeeds() {
        for (int seed : row(1, -1, 77, 0x12345678, LEAST, GREATEST)) {
            for (int i = 0; i + 1 < BY_RANK.length; i++) {
                topOfTwo("rank with seed " + seed, seed, BY_RANK[i] ^ seed, BY_RANK[i + 1] ^ seed);
            }
        }
    }

    /** "trees .. whose shape hangs on their keys alone" */
    private static void shapeHangsOnKeysAlone() {
        int[] keys = {2, 4, 10, 8};
        int orders = 0;
        for (int i = 0; i < 256; i++) {
            int[] order = {i % 4, i / 4 % 4, i / 16 % 4, i / 64};
            if ((1 << order[0] | 1 << order[1] | 1 << order[2] | 1 << order[3]) == 15) {
                orders++;
                int[] way = {keys[order[0]], keys[order[1]], keys[order[2]], keys[order[3]]};
                // without their tops, one after the other: 8, 4, 2, 10
                Edge.of("shape").program(mainPart(fill(0, way), row(2, 1, 43, 40, 0, 20, 8, 2, 2, 43, 40, 1, 20, 4, 2, 3, 43, 40, 2, 20, 2)))
                    .done().top(0, 8).top(1, 4).top(2, 2).top(3, 10).map(0, 2, 20, 4, 40, 8, 80, 10, 100);
            }
        }
        Check.due("orders of four keys", orders, 24);
    }

    // ---- cells that are made

    /** "PUT in t: without t a cell (k, v)" */
    private static void putWithoutTree() {
        makes("PUT without t", 0, 1, 1, row(), 2, 3, 42, 41, 20, 5, 20, 50).most(1).map(3, 5, 50);
        makes("PUT without t", 1, 1, 2, fill(1, 5), 2, 3, 42, 41, 20, 5, 20, 50).most(1);
        makes("PUT without t", 1, 1, 2, fill(1, 5), 2, 3, 42, 40, 2, 20, 5, 20, 50).most(1);
    }

    /** "if k is c's key a cell (k, v) with c's trees" */
    private static void putTopKey() {
        int[] before = Feed.joined(THREE_LESSER, pad(8, 1, 2));
        makes("PUT of c's key", 5, 1, 6, before, 2, 3, 42, 40, 0, 20, 8, 20, 1).most(2).map(3, 2, 20, 4, 40, 8, 1);
        makes("PUT of c's key, one below", 5, 2, 7, before, 2, 3, 42, 40, 0, 20, 4, 20, 1).most(2).map(3, 2, 20, 4, 1, 8, 80);
        makes("PUT of c's key, two below", 5, 3, 8, before, 2, 3, 42, 40, 0, 20, 2, 20, 1).most(3).map(3, 2, 1, 4, 40, 8, 80);
    }

    /** "if k's rank is greater than that of c's key a cell (k, v) with the two of t SPLIT at k" */
    private static void putAboveTop() {
        // 2( , 10( , 14)) SPLIT at 4: 2 and 10 anew, 14 as it is
        makes("PUT above the top", 3, 3, 6, THREE_GREATER, 2, 3, 42, 40, 0, 20, 4, 20, 1).most(3).top(3, 4).map(3, 2, 20, 4, 1, 10, 100, 14, 140);
        makes("PUT above the top", 3, 3, 6, THREE_GREATER, 2, 3, 42, 40, 0, 20, 8, 20, 1).most(3).top(3, 8);
        // at 15 all three anew
        makes("PUT above the top, behind all", 3, 4, 7, THREE_GREATER, 2, 3, 42, 40, 0, 20, 15, 20, 1).most(4).top(3, 15);
        // 8(4(2, ), ) SPLIT at 15: 8 alone anew
        makes("PUT above the top, behind all", 3, 2, 5, THREE_LESSER, 2, 3, 42, 40, 0, 20, 15, 20, 1).most(2).top(3, 15)
            .map(3, 2, 20, 4, 40, 8, 80, 15, 1);
        // 10( , 14) SPLIT at 2: 10 alone anew
        makes("PUT above the top, before all", 2, 2, 4, fill(0, 14, 10), 2, 3, 42, 40, 0, 20, 2, 20, 1).most(2).top(3, 2);
    }

    /** "else a cell (c's key and value) with c's trees, that where k belongs being PUT in" */
    private static void putBelowTop() {
        // 12 belongs under 14, 6 under 10, 1 under 2
        makes("PUT below", 3, 4, 7, THREE_GREATER, 2, 3, 42, 40, 0, 20, 12, 20, 1).most(4).top(3, 2).map(3, 2, 20, 10, 100, 12, 1, 14, 140);
        makes("PUT below", 3, 3, 6, THREE_GREATER, 2, 3, 42, 40, 0, 20, 6, 20, 1).most(3).map(3, 2, 20, 6, 1, 10, 100, 14, 140);
        makes("PUT below", 3, 2, 5, THREE_GREATER, 2, 3, 42, 40, 0, 20, 1, 20, 1).most(2).map(3, 1, 1, 2, 20, 10, 100, 14, 140);
        // 2( , 14): 10 comes between, 14 is SPLIT
        makes("PUT between", 2, 3, 5, fill(0, 14, 2), 2, 3, 42, 40, 0, 20, 10, 20, 1).most(3).top(3, 2).map(3, 2, 20, 10, 1, 14, 140);
    }

    /** "WITHOUT k: t itself, if k is not in it" */
    private static void withoutKeyThatIsNotIn() {
        int[] before = Feed.joined(THREE_LESSER, pad(8, 1, 2));
        for (int key : row(LEAST, 1, 3, 5, 9, GREATEST)) {
            makes("WITHOUT a key that is not in it", 5, 0, 5, before, 2, 3, 43, 40, 0, 20, key).most(2).map(3, 2, 20, 4, 40, 8, 80);
        }
        makes("WITHOUT a key, of none", 5, 0, 5, before, 2, 3, 43, 41, 20, 3).most(2).map(3);
    }

    /** "if it is c's key c's trees JOINED", "JOINED l and r: the other one if one is empty" */
    private static void withoutTopKey() {
        makes("WITHOUT the top, r is empty", 5, 0, 5, Feed.joined(THREE_LESSER, pad(8, 1, 2)), 2, 3, 43, 40, 0, 20, 8)
            .most(2).top(3, 4).map(3, 2, 20, 4, 40);
        makes("WITHOUT the top, l is empty", 5, 0, 5, Feed.joined(THREE_GREATER, pad(2, 1, 2)), 2, 3, 43, 40, 0, 20, 2)
            .most(2).top(3, 10).map(3, 10, 100, 14, 140);
        makes("WITHOUT the only key", 1, 0, 1, fill(0, 5), 2, 3, 43, 40, 0, 20, 5).most(1).map(3);
    }

    /** "else a cell (c's) with c's trees, that where k belongs being WITHOUT it" */
    private static void withoutKeyBelow() {
        int[] lesser = Feed.joined(THREE_LESSER, pad(8, 1, 2));
        makes("WITHOUT one below", 5, 1, 6, lesser, 2, 3, 43, 40, 0, 20, 4).most(2).map(3, 2, 20, 8, 80);
        makes("WITHOUT two below", 5, 2, 7, lesser, 2, 3, 43, 40, 0, 20, 2).most(2).map(3, 4, 40, 8, 80);
        int[] greater = Feed.joined(THREE_GREATER, pad(2, 1, 2));
        makes("WITHOUT one below", 5, 1, 6, greater, 2, 3, 43, 40, 0, 20, 10).most(2).map(3, 2, 20, 14, 140);
        makes("WITHOUT two below", 5, 2, 7, greater, 2, 3, 43, 40, 0, 20, 14).most(2).map(3, 2, 20, 10, 100);
    }

    /** "the top with the greater rank: a cell (its own) with its outer tree and its inner one JOINED with the other one" */
    private static void joinedBoth() {
        // 4(2, 10): it needs 5 at once; JOINED 2 and 10: 2 anew
        makes("JOINED 2 and 10", 5, 1, 6, Feed.joined(fill(0, 10, 2, 4), pad(4, 1, 2)), 2, 3, 43, 40, 0, 20, 4)
            .most(3).top(3, 2).map(3, 2, 20, 10, 100);
        // 8(4, 14): it needs 5 at once; 4 anew. 8(7, 10): 10 anew
        makes("JOINED 4 and 14", 5, 1, 6, Feed.joined(fill(0, 14, 4, 8), pad(8, 1, 2)), 2, 3, 43, 40, 0, 20, 8).top(3, 4);
        makes("JOINED 7 and 10", 5, 1, 6, Feed.joined(fill(0, 7, 10, 8), pad(8, 1, 2)), 2, 3, 43, 40, 0, 20, 8)
            .top(3, 10).map(3, 7, 70, 10, 100);
        // 8(4( , 7), 10(9, )): it needs 9 at once, of which 5 stay, and 4 in other maps; 4, 10, 7 anew
        int[] sides = mainPart(fill(0, 9, 7, 10, 4, 8), pad(8, 1, 2, 4, 5), row(7, 20, 1, 2, 3, 43, 40, 0, 20, 8));
        Edge.of("JOINED from side to side, a cell too few").init(0, 11).program(sides).ends(MapMachine.OUT_OF_HEAP, 0).tells(1).live(9, 7);
        Edge.of("JOINED from side to side").init(0, 12).program(sides).done().live(12, 10)
            .most(5).top(3, 4).map(3, 4, 40, 7, 70, 9, 90, 10, 100);
    }

    /** "UNION of s and t: the other one if one is empty" */
    private static void unionWithEmpty() {
        int[] before = Feed.joined(THREE_LESSER, pad(8, 1, 2));
        makes("UNION with an empty one", 5, 0, 5, before, 2, 3, 44, 40, 0, 41).most(2).map(3, 2, 20, 4, 40, 8, 80);
        makes("UNION with an empty one", 5, 0, 5, before, 2, 3, 44, 41, 40, 0).most(2).map(3, 2, 20, 4, 40, 8, 80);
        makes("UNION of empty ones", 5, 0, 5, before, 2, 3, 44, 41, 41).most(2).map(3);
    }

    /** "if the rank of t's top is not less than that of s's" (it is the same), "SPLIT .. if k is c's key c's two trees" */
    private static void unionOfSameTop() {
        int[] before = Feed.joined(THREE_GREATER, row(2, 1, 42, 41, 20, 2, 20, 7));
        makes("UNION with the same top", 4, 1, 5, before, 2, 3, 44, 40, 0, 40, 1).most(2).map(3, 2, 7, 10, 100, 14, 140);
        makes("UNION with the same top", 4, 1, 5, before, 2, 3, 44, 40, 1, 40, 0).most(2).map(3, 2, 20, 10, 100, 14, 140);
        makes("UNION with itself", 4, 3, 7, Feed.joined(THREE_LESSER, pad(8, 1)), 2, 3, 44, 40, 0, 40, 0).most(3).map(3, 2, 20, 4, 40, 8, 80);
    }

    /** "a cell (t's top's) with the UNIONS of what s is SPLIT into ..; else a cell (s's top's key ..)" */
    private static void unionAbove() {
        int[] before = Feed.joined(fill(0, 10, 2), row(2, 1, 42, 41, 20, 4, 20, 7));
        makes("UNION, t's top above", 3, 3, 6, before, 2, 3, 44, 40, 0, 40, 1).most(3).top(3, 4).map(3, 2, 20, 4, 7, 10, 100);
        makes("UNION, s's top above", 3, 3, 6, before, 2, 3, 44, 40, 1, 40, 0).most(3).top(3, 4).map(3, 2, 20, 4, 7, 10, 100);
        // 8(4(2, ), ) and 4: 4 is SPLIT by 8 and made anew; then 4 of both, with the value of the second
        int[] fourBelow = Feed.joined(THREE_LESSER, row(2, 1, 42, 41, 20, 4, 20, 7));
        makes("UNION, the top of t in s", 4, 3, 6, fourBelow, 2, 3, 44, 40, 0, 40, 1).most(3).map(3, 2, 20, 4, 7, 8, 80);
        makes("UNION, the top of s in t", 4, 3, 6, fourBelow, 2, 3, 44, 40, 1, 40, 0).most(3).map(3, 2, 20, 4, 40, 8, 80);
    }

    /** "SPLIT makes cells, too, that may be of no use" */
    private static void splitOfNoUse() {
        // 2( , 10) and 4( , 6): 2, 10, 4 anew; then 10 and 6: 6 anew, 10 anew once more
        int[] before = Feed.joined(fill(0, 10, 2), fill(1, 6, 4));
        makes("SPLIT makes cells of no use", 4, 5, 8, before, 2, 3, 44, 40, 0, 40, 1).most(5).map(3, 2, 20, 4, 40, 6, 60, 10, 100);
        makes("SPLIT makes cells of no use", 4, 5, 8, before, 2, 3, 44, 40, 1, 40, 0).most(5).map(3, 2, 20, 4, 40, 6, 60, 10, 100);
    }

    /** "When PUT, WITHOUT, UNION make n cells": n alone may be more than ROOM. */
    private static void moreCellsThanRoom() {
        topOfTwo("6 is above 29", 0, 29, 6);
        topOfTwo("29 is above 21", 0, 21, 29);
        topOfTwo("21 is above 13", 0, 13, 21);
        // 6( , 13) and 29(21, ): 6, 29 and 21 anew; then 13 and 29(21, ): 29 and 13; then 13 and 21: 21 and 13
        int[] two = Feed.joined(fill(0, 13, 6), fill(1, 21, 29));
        makes("more cells than the result has", 4, 7, 8, two, 2, 3, 44, 40, 0, 40, 1).most(7).top(3, 6).map(3, 6, 60, 13, 130, 21, 210, 29, 290);
        for (int room = 5; room <= 10; room++) {
            overAndOver(room, two, 4);
        }
        // a union of keys that lie between one another makes 18, 22 and 29 cells; to have the two takes 8, 9 and 11 at once
        overAndOver(8, Feed.joined(fill(0, 19, 9, 8), fill(1, 13, 21, 26, 28)), 7);
        overAndOver(9, Feed.joined(fill(0, 19, 20, 21, 24, 29), fill(1, 18, 7, 2)), 8);
        for (int room = 11; room <= 28; room++) {
            overAndOver(room, Feed.joined(fill(0, 11, 18, 24, 26), fill(1, 16, 20, 9, 7, 6, 4)), 10);
        }
    }

    /** With arg 1 the union of the two is too much; what a run with arg 0 does then is as if that had not been. */
    private static void overAndOver(int room, int[] two, int live) {
        int[] program = mainPart(row(3, 21, 0), two, row(7, 20, 1, 2, 3, 44, 40, 0, 40, 1),
            row(4, 2, 0, 44, 42, 41, 20, 7, 20, 1, 42, 41, 20, 2, 20, 2, 0));
        Edge edge = Edge.of("a union of too many cells in ROOM " + room).init(0, room).program(program);
        for (int i = 0; i < 3; i++) {
            edge.ends(MapMachine.OUT_OF_HEAP, 1).tells(1).live(live, live).keyCount(3, 0);
            edge.done().tells().live(2, 2).most(2).map(0, 2, 2, 7, 1);
        }
    }

    // ---- live

    /** "THE HEAP has ROOM for so many cells (init)": the least ROOM is 1. */
    private static void roomOfOne() {
        Edge.of("ROOM 1").init(0, 1).program(mainPart(fill(0, 5), row(2, 0, 41), fill(0, 6))).done().map(0, 6, 60).live(1, 1);
        Edge.of("ROOM 1").init(0, 1).program(mainPart(fill(0, 5), row(2, 0, 43, 40, 0, 20, 5), fill(0, 6))).done().map(0, 6, 60).live(1, 1);
        Edge.of("ROOM 1").init(0, 1).program(mainPart(fill(0, 5), fill(0, 5))).ends(MapMachine.OUT_OF_HEAP, 0).map(0, 5, 50).live(1, 1);
    }

    /** "LIVE are all that can be reached from map variables (of all, and .. MAIN'S too)" */
    private static void allVariablesAreLive() {
        int[] six = {};
        for (int m = 0; m < 6; m++) {
            six = Feed.joined(six, row(2, m, 42, 41, 20, m, 20, m));
        }
        int[] program = mainPart(six, row(7, 20, 1, 2, 0, 42, 41, 20, 7, 20, 7));
        Edge.of("map variables are live").init(0, 7).program(program).done().live(6, 4).map(0, 7, 7);
        Edge.of("map variables are live").init(0, 6).program(program).ends(MapMachine.OUT_OF_HEAP, 0).tells(1).live(6, 4).map(0, 0, 0);
        for (int m = 0; m < 6; m++) {
            int[] one = mainPart(row(2, m, 42, 41, 20, 5, 20, 5, 7, 20, 1, 2, (m + 1) % 6, 42, 41, 20, 7, 20, 7));
            Edge.of("map " + m + " is live").init(0, 2).program(one).done();
            Edge.of("map " + m + " is live").init(0, 1).program(one).ends(MapMachine.OUT_OF_HEAP, 0).tells(1);
        }
    }

    private static final int[] FILL_OWN = {2, 4, 42, 41, 20, 1, 20, 1, 2, 5, 42, 41, 20, 2, 20, 2};

    /** ".. and of all calls under way" */
    private static void callsUnderWayAreLive() {
        int[] program = Feed.joined(row(10, 0, 0), FILL_OWN, row(7, 20, 1, 2, 0, 42, 41, 20, 3, 20, 3, 7, 20, 2, 0),
            row(10, 1, 0), FILL_OWN, row(8, 0, 0, 11), FILL_OWN, row(8, 1, 0));
        Edge.of("calls under way are live").init(0, 7).program(program).done().tells(1, 2).live(3, 1);
        Edge.of("calls under way are live").init(0, 6).program(program).ends(MapMachine.OUT_OF_HEAP, 0).tells(1).live(6, 0).calls(2);
        // 24 calls and MAIN, each with its two
        int[] deep = Feed.joined(row(10, 0, 1), FILL_OWN, row(3, 21, 8, 8, 0, 23, 21, 8, 20, 1, 4),
            row(7, 20, 1, 2, 0, 42, 41, 20, 3, 20, 3, 0, 0, 11), FILL_OWN, row(8, 0, 20, 23, 0));
        Edge.of("24 calls are live").init(0, 51).program(deep).done().tells(1).live(3, 1);
        Edge.of("24 calls are live").init(0, 50).program(deep).ends(MapMachine.OUT_OF_HEAP, 0).tells(1).live(50, 0).calls(24);
    }

    private static void callsThatCameBackAreNot() {
        int[] program = Feed.joined(row(10, 0, 0), FILL_OWN, row(9, 20, 1, 0, 10, 1, 0), FILL_OWN, row(0),
            row(11, 8, 0, 8, 1, 8, 0, 2, 0, 42, 41, 20, 3, 20, 3, 2, 1, 42, 41, 20, 4, 20, 4, 0));
        Edge.of("calls that came back are not live").init(0, 2).program(program).done().live(2, 2);
    }

    /** Function 0 makes a cell, with 1 told before and 2 behind it, and answers 1. */
    private static final int[] MAKING = {10, 0, 0, 7, 20, 1, 2, 1, 42, 41, 20, 2, 20, 2, 7, 20, 2, 9, 20, 1, 0};

    /** ".. from maps that were worked out and are not used yet" */
    private static void workedOutAndNotUsedYet() {
        String sentence = "worked out and not used yet";
        waiting(sentence + ": 32", 5, 7, 32, 42, 41, 20, 1, 20, 5, 36, 0);
        waiting(sentence + ": 33", 1, 7, 33, 42, 41, 20, 1, 20, 5, 36, 0);
        waiting(sentence + ": 35, the first", 1, 7, 35, 42, 41, 20, 1, 20, 5, 36, 0, 20, 9);
        waiting(sentence + ": 35, the second", 1, 7, 35, 42, 41, 20, 1, 20, 5, 20, 1, 36, 0);
        // 43 of a key that is not in it makes no cell
        waiting(sentence + ": 43", 1, 7, 34, 43, 42, 41, 20, 3, 20, 5, 36, 0);
        // 44 with an empty one makes no cell
        waiting(sentence + ": 44", 1, 7, 34, 44, 42, 41, 20, 3, 20, 5, 43, 41, 36, 0);
        // 42 makes one more, beside the one of its own map and the one of map 1
        waitingInRoom(sentence + ": 42, the key", 3, 1, 7, 34, 42, 42, 41, 20, 1, 20, 5, 36, 0, 20, 6);
        waitingInRoom(sentence + ": 42, the value", 3, 1, 7, 34, 42, 42, 41, 20, 1, 20, 5, 20, 1, 36, 0);
        Edge.of(sentence + ": 42 itself").init(0, 2).program(Feed.joined(MAKING, mainPart(row(7, 34, 42, 42, 41, 20, 1, 20, 5, 36, 0, 20, 6))))
            .ends(MapMachine.OUT_OF_HEAP, 0).tells(1, 2).live(2, 1);
    }

    private static void waiting(String sentence, int third, int... statement) {
        waitingInRoom(sentence, 2, third, statement);
    }

    private static void waitingInRoom(String sentence, int room, int third, int... statement) {
        int[] program = Feed.joined(MAKING, mainPart(statement));
        Edge.of(sentence).init(0, room).program(program).done().tells(1, 2, third).live(1, 1);
        Edge.of(sentence).init(0, 1).program(program).ends(MapMachine.OUT_OF_HEAP, 0).tells(1).live(1, 0).map(1);
    }

    private static void usedMapsAreNotLive() {
        for (int[] use : new int[][] {row(32, 42, 41, 20, 1, 20, 5, 20, 1), row(33, 42, 41, 20, 1, 20, 5, 20, 1), row(34, 42, 41, 20, 1, 20, 5),
            row(35, 42, 41, 20, 1, 20, 5, 20, 1, 20, 9)}) {
            Edge.of("a map that was used").init(0, 1).program(mainPart(row(7), use, fill(0, 3))).done().live(1, 1);
            Edge.of("a map that was used").init(0, 1).program(mainPart(row(9), use)).done().live(0, 0);
        }
    }

    /** ".. and from those that 6 goes over" */
    private static void goneOverIsLive() {
        int[] program = mainPart(fill(0, 5), row(6, 0, 1, 2, 2, 0, 41, 7, 20, 1, 2, 1, 42, 41, 20, 7, 20, 7, 7, 20, 2, 0));
        Edge.of("what 6 goes over is live").init(0, 2).program(program).done().tells(1, 2).live(1, 1);
        Edge.of("what 6 goes over is live").init(0, 1).program(program).ends(MapMachine.OUT_OF_HEAP, 0).tells(1).live(1, 0);
        // in the last round, too, and in a call
        int[] inCall = Feed.joined(MAKING, mainPart(THREE_LESSER, row(6, 0, 1, 2, 2, 0, 41, 3, 28, 21, 1, 20, 8, 8, 0, 0, 0)));
        Edge.of("what 6 goes over is live in calls").init(0, 4).program(inCall).done().tells(1, 2).live(1, 1);
        Edge.of("a run at its end within 6").init(0, 4).program(mainPart(THREE_LESSER, row(6, 0, 1, 2, 2, 0, 41, 9, 20, 1, 0)))
            .done().live(3, 0).map(0);
        int[] twoMaps = mainPart(THREE_LESSER, pad(8, 1), row(6, 0, 1, 2, 2, 0, 41, 6, 1, 3, 4, 2, 1, 41, 9, 20, 1, 0, 0));
        Edge.of("a run at its end within 6 in 6").init(0, 4).program(twoMaps).done().live(4, 0);
    }

    private static void goneOverIsGivenBack() {
        Edge.of("6 is behind").init(0, 1).program(mainPart(fill(0, 5), row(6, 0, 1, 2, 2, 0, 41, 0), fill(1, 7))).done().live(1, 1).map(1, 7, 70);
        int[] leftBy9 = Feed.joined(row(10, 0, 0, 6, 0, 8, 9, 2, 0, 41, 9, 20, 1, 0, 0), mainPart(fill(0, 5), row(8, 0), fill(1, 7)));
        Edge.of("6 was left by 9").init(0, 1).program(leftBy9).done().live(1, 1).map(1, 7, 70);
    }

    /** "those that are live then (with their maps)": what PUT and UNION work on is live. */
    private static void withTheirMaps() {
        makes("PUT with its own map", 1, 1, 1, row(), 2, 0, 42, 42, 41, 20, 1, 20, 1, 20, 1, 20, 2).most(1).map(0, 1, 2);
        // 7 and 2: 2 is above; 7 is SPLIT, and made anew
        makes("UNION with its own maps", 2, 2, 2, row(), 2, 0, 44, 42, 41, 20, 7, 20, 1, 42, 41, 20, 2, 20, 2).most(2).map(0, 2, 2, 7, 1);
        // 4(2, ) needs 3, and so does 43 of 2, which makes 4 anew
        Edge.of("WITHOUT with its own map").init(0, 3).program(mainPart(row(2, 0, 43, 42, 42, 41, 20, 2, 20, 2, 20, 4, 20, 4, 20, 2)))
            .done().most(2).map(0, 4, 4).live(1, 1);
    }

    /** "Each counts once, however often it is reached" */
    private static void eachCountsOnce() {
        int[] same = Feed.joined(THREE_LESSER, row(2, 1, 40, 0, 2, 2, 40, 0, 2, 4, 40, 1, 2, 5, 40, 2));
        Edge.of("each counts once").init(0, 4).program(mainPart(same)).done().live(3, 3);
        makes("each counts once", 3, 2, 5, same, 2, 3, 42, 40, 0, 20, 4, 20, 1).map(3, 2, 20, 4, 1, 8, 80);
        // on the stack as well, and gone over
        Edge.of("each counts once").init(0, 4).program(mainPart(THREE_LESSER, row(6, 0, 1, 2, 6, 0, 3, 4, 2, 3, 42, 40, 0, 20, 8, 20, 1, 9, 20, 1, 0, 0)))
            .done().live(4, 4);
        // of 8(4(2, ), ) and of it with another 8 the cells 4 and 2 are the same
        Edge.of("trees share cells").init(0, 4).program(mainPart(THREE_LESSER, pad(8, 1))).done().live(4, 4);
        Edge.of("trees share cells").init(0, 4).program(mainPart(THREE_LESSER, pad(8, 1), row(2, 0, 41))).done().live(3, 3).map(1, 2, 20, 4, 40, 8, 1);
    }

    /** "what can't be reached is given back" */
    private static void givenBack() {
        int[] program = mainPart(fill(0, 1), row(1, 1, 20, 200, 5, 21, 1, 2, 0, 42, 40, 0, 20, 1, 21, 1, 1, 1, 23, 21, 1, 20, 1, 0));
        Edge.of("given back").init(0, 2).program(program).done().map(0, 1, 1).live(1, 1).most(1);
        Edge.of("not given back while live").init(0, 1).program(program).ends(MapMachine.OUT_OF_HEAP, 0).map(0, 1, 10).live(1, 1);
        // what a run before had is given back when the next one begins
        Edge again = Edge.of("given back by start() and interpret()").init(0, 4).program(mainPart(THREE_LESSER, pad(8, 1)));
        again.done().live(4, 4).done().live(4, 4).done().live(4, 4).map(1, 2, 20, 4, 40, 8, 1);
        Edge two = again.init(0, 5).program(mainPart(THREE_LESSER, pad(8, 1, 2)));
        two.done().live(5, 5).map(2, 2, 20, 4, 40, 8, 1);
    }

    /** "OUT_OF_HEAP, and nothing of it is done" */
    private static void nothingOfItIsDone() {
        // 9 belongs beside 8: 8 anew, and 9; 3 below 2: all three anew, and 3
        Edge.of("nothing of PUT is done").init(0, 4).program(mainPart(THREE_LESSER, row(2, 0, 42, 40, 0, 20, 9, 20, 1, 7, 20, 1)))
            .ends(MapMachine.OUT_OF_HEAP, 0).tells().map(0, 2, 20, 4, 40, 8, 80).live(3, 3).most(2).nextWord(34);
        Edge.of("nothing of PUT is done").init(0, 4).program(mainPart(THREE_LESSER, row(2, 0, 42, 40, 0, 20, 3, 20, 1)))
            .ends(MapMachine.OUT_OF_HEAP, 0).map(0, 2, 20, 4, 40, 8, 80).live(3, 3).most(2).top(0, 8);
        Edge.of("nothing of WITHOUT is done").init(0, 4).program(mainPart(THREE_LESSER, row(2, 0, 43, 40, 0, 20, 2)))
            .ends(MapMachine.OUT_OF_HEAP, 0).map(0, 2, 20, 4, 40, 8, 80).live(3, 3).most(2).nextWord(32);
        Edge.of("nothing of UNION is done").init(0, 4).program(mainPart(THREE_LESSER, row(2, 0, 44, 40, 0, 40, 0)))
            .ends(MapMachine.OUT_OF_HEAP, 0).map(0, 2, 20, 4, 40, 8, 80).live(3, 3).most(2).nextWord(32);
        // the map that was worked out for it is still there, in the run
        Edge.of("its map is still live").init(0, 1).program(mainPart(row(2, 0, 42, 42, 41, 20, 1, 20, 1, 20, 2, 20, 2)))
            .ends(MapMachine.OUT_OF_HEAP, 0).map(0).live(1, 0).most(1);
        // the next start() has all of the heap
        Edge.of("and once more").init(0, 4).program(mainPart(THREE_LESSER, row(3, 21, 0, 2, 0, 42, 40, 0, 20, 3, 20, 1, 0)))
            .ends(MapMachine.OUT_OF_HEAP, 1).ends(MapMachine.DONE, 0).live(3, 3).ends(MapMachine.OUT_OF_HEAP, 1).live(3, 3);
    }

    /** The key with the greatest rank of 0 .. n - 1, by the document's formula. */
    private static int topBelow(int n) {
        int top = 0;
        for (int key = 1; key < n; key++) {
            top = Integer.compareUnsigned(rank(key), rank(top)) > 0 ? key : top;
        }
        return top;
    }

    private static int rank(int key) {
        int x = key;
        x = x ^ (x >>> 16);
        x = x * 0x7feb352d;
        x = x ^ (x >>> 15);
        x = x * 0x846ca68b;
        return x ^ (x >>> 16);
    }

    /**
     * Keys 0 .. n - 1 in map 0; then calls within calls, each of which has two maps that differ from map 0 in
     * their top cell alone: so the live cells grow one by one, and each is told.
     */
    private static int[] growing(int n) {
        int[] oneMore = {42, 40, 0, 21, 0, 20, 7, 7, 20, 1};
        return Feed.joined(row(10, 0, 0, 2, 4), oneMore, row(2, 5), oneMore, row(8, 0, 0),
            row(11, 5, 27, 21, 1, 20, n, 2, 0, 42, 40, 0, 21, 1, 21, 1, 1, 1, 22, 21, 1, 20, 1, 0, 8, 0, 0));
    }

    private static void roomToTheLastCell() {
        Edge.of("a new object has ROOM 300").program(growing(270)).ends(MapMachine.OUT_OF_HEAP, topBelow(270)).toldCount(30).live(300, 270);
        for (int room : row(299, 300, 301)) {
            Edge.of("ROOM " + room).init(0, room).program(growing(270)).ends(MapMachine.OUT_OF_HEAP, topBelow(270))
                .toldCount(room - 270).live(room, 270).keyCount(0, 270);
        }
        for (int room : row(399, 400)) {
            Edge.of("ROOM " + room).init(0, room).program(growing(370)).ends(MapMachine.OUT_OF_HEAP, topBelow(370))
                .toldCount(room - 370).live(room, 370).keyCount(0, 370);
        }
    }

    /** count(4): "the most cells that one PUT, WITHOUT or UNION made since start() or interpret() (0 before any)" */
    private static void mostCells() {
        int[] program = mainPart(row(3, 21, 0), THREE_LESSER, row(2, 3, 42, 40, 0, 20, 2, 20, 1, 2, 3, 42, 41, 20, 1, 20, 1, 0));
        Edge.of("the most cells").program(program).ends(MapMachine.DONE, 1).most(3).ends(MapMachine.DONE, 0).most(0);
        Edge.of("no cells").program(mainPart(row(2, 0, 44, 43, 41, 20, 1, 40, 1))).done().most(0).live(0, 0);
    }
}
