/** The sentences of 'Terms' on what E, M and S do, on variables and on ENDS: a test for each edge that they name. */
public final class LanguageEdgesTest {
    private static final int LEAST = -2147483648;
    private static final int GREATEST = 2147483647;
    /** Function 7 tells its parameter and answers it. */
    private static final int[] TELLING = {10, 7, 1, 7, 21, 8, 9, 21, 8, 0};
    /** Function 6 tells its three parameters, and comes to its end. */
    private static final int[] TELLING_THREE = {10, 6, 3, 7, 21, 8, 7, 21, 9, 7, 21, 10, 0};
    /** Function 5 makes variable 0 100 and map 0 {9: 9}, and answers 1. */
    private static final int[] CHANGING = {10, 5, 0, 1, 0, 20, 100, 2, 0, 42, 41, 20, 9, 20, 9, 9, 20, 1, 0};

    public static void main(String[] args) {
        sumsRunOver();
        differencesRunOver();
        productsRunOver();
        anyNumber();
        quotientTowardsZero();
        divisionByZero();
        leastByMinusOne();
        less();
        equal();
        notOf();
        and();
        or();
        secondOneIsNotWorkedOut();
        valueOfKey();
        isThereThatKey();
        howManyKeys();
        greatestKeyNotGreater();
        everyKeyOfATree();
        answerAtTheEnd();
        withThatKey();
        withoutThatKey();
        allKeysOfBoth();
        ifNotZero();
        ifWithoutStatements();
        asLongAs();
        eachKeyOfNone();
        eachKeyLeastFirst();
        mapAsItIsNow();
        keyAndValue();
        functionIsCalled();
        functionsAnswer();
        endOfMain();
        variablesOfAll();
        variablesOfACall();
        othersAreZero();
        mapsOfACall();
        mainsOwn();
        workedOutInItsOrder();
        orderSeenByChanges();
        whatWaits();
        stackFull();
        numbersWaitingInCalls();
        mapsWaitingInCalls();
        deepInEachCall();
        callsOneBehindTheOther();
        leftInTheMiddle();
        outFull();
        atItsEnd();
        Check.finish();
    }

    private static int[] row(int... row) {
        return row;
    }

    /** MAIN with the statements, and the functions 5, 6 and 7. */
    private static int[] withFunctions(int... statements) {
        return Feed.joined(TELLING, TELLING_THREE, CHANGING, row(11), statements, row(0));
    }

    private static Edge done(String sentence, int arg, int... tokens) {
        return Edge.of(sentence).program(tokens).ends(MapMachine.DONE, arg);
    }

    // ---- E

    private static void sumsRunOver() {
        String sentence = "sums run over";
        Edge.worth(sentence, LEAST, 22, 20, GREATEST, 20, 1);
        Edge.worth(sentence, GREATEST, 22, 20, LEAST, 20, -1);
        Edge.worth(sentence, -2, 22, 20, GREATEST, 20, GREATEST);
        Edge.worth(sentence, 0, 22, 20, LEAST, 20, LEAST);
        Edge.worth(sentence, GREATEST, 22, 20, GREATEST - 1, 20, 1);
        Edge.worth(sentence, LEAST, 22, 20, LEAST + 1, 20, -1);
    }

    private static void differencesRunOver() {
        String sentence = "differences run over";
        Edge.worth(sentence, GREATEST, 23, 20, LEAST, 20, 1);
        Edge.worth(sentence, LEAST, 23, 20, GREATEST, 20, -1);
        Edge.worth(sentence, LEAST, 23, 20, 0, 20, LEAST);
        Edge.worth(sentence, 0, 23, 20, LEAST, 20, LEAST);
        Edge.worth(sentence, LEAST, 23, 20, -1, 20, GREATEST);
    }

    private static void productsRunOver() {
        String sentence = "products run over";
        Edge.worth(sentence, 0, 24, 20, 65536, 20, 65536);
        Edge.worth(sentence, -2147479015, 24, 20, 46341, 20, 46341);
        Edge.worth(sentence, 2147395600, 24, 20, 46340, 20, 46340);
        Edge.worth(sentence, 1, 24, 20, GREATEST, 20, GREATEST);
        Edge.worth(sentence, LEAST, 24, 20, LEAST, 20, -1);
        Edge.worth(sentence, LEAST, 24, 20, GREATEST, 20, LEAST);
        Edge.worth(sentence, 0, 24, 20, LEAST, 20, 0);
    }

    private static void anyNumber() {
        String sentence = "20 n: that number";
        for (int n : row(LEAST, LEAST + 1, -2, -1, 0, 1, 44, GREATEST)) {
            Edge.worth(sentence, n, 20, n);
        }
    }

    private static void quotientTowardsZero() {
        String sentence = "quotient towards 0, rest";
        Edge.worth(sentence, 3, 25, 20, 7, 20, 2);
        Edge.worth(sentence, -3, 25, 20, -7, 20, 2);
        Edge.worth(sentence, -3, 25, 20, 7, 20, -2);
        Edge.worth(sentence, 3, 25, 20, -7, 20, -2);
        Edge.worth(sentence, 0, 25, 20, -1, 20, 2);
        Edge.worth(sentence, 1, 26, 20, 7, 20, 2);
        Edge.worth(sentence, -1, 26, 20, -7, 20, 2);
        Edge.worth(sentence, 1, 26, 20, 7, 20, -2);
        Edge.worth(sentence, -1, 26, 20, -7, 20, -2);
        Edge.worth(sentence, 0, 25, 20, 0, 20, -5);
        Edge.worth(sentence, 0, 26, 20, 0, 20, -5);
        Edge.worth(sentence, 1, 25, 20, LEAST, 20, LEAST);
        Edge.worth(sentence, LEAST, 25, 20, LEAST, 20, 1);
        Edge.worth(sentence, GREATEST, 26, 20, GREATEST, 20, LEAST);
    }

    private static void divisionByZero() {
        String sentence = "by 0: DIV_ZERO";
        for (int divided : row(0, 1, -1, LEAST, GREATEST)) {
            for (int token : row(25, 26)) {
                Edge.of(sentence).program(11, 1, 1, 20, 5, 1, 1, token, 20, divided, 21, 0, 7, 20, 1, 0)
                    .ends(MapMachine.DIV_ZERO, 0).tells().variable(1, 5).nextWord(9);
                done(sentence, 1, 11, 1, 1, token, 20, divided, 21, 0, 7, 20, 1, 0).tells(1);
            }
        }
    }

    private static void leastByMinusOne() {
        String sentence = "of -2147483648 by -1: itself, 0";
        Edge.worth(sentence, LEAST, 25, 20, LEAST, 20, -1);
        Edge.worth(sentence, 0, 26, 20, LEAST, 20, -1);
        Edge.worth(sentence, GREATEST, 25, 20, LEAST + 1, 20, -1);
        Edge.worth(sentence, 0, 26, 20, LEAST + 1, 20, -1);
    }

    private static void less() {
        String sentence = "27: 1 if the first is less, else 0";
        Edge.worth(sentence, 1, 27, 20, LEAST, 20, GREATEST);
        Edge.worth(sentence, 0, 27, 20, GREATEST, 20, LEAST);
        Edge.worth(sentence, 0, 27, 20, 5, 20, 5);
        Edge.worth(sentence, 1, 27, 20, 4, 20, 5);
        Edge.worth(sentence, 0, 27, 20, 6, 20, 5);
        Edge.worth(sentence, 0, 27, 20, LEAST, 20, LEAST);
        Edge.worth(sentence, 1, 27, 20, -1, 20, 0);
    }

    private static void equal() {
        String sentence = "28: 1 if they are equal, else 0";
        Edge.worth(sentence, 1, 28, 20, LEAST, 20, LEAST);
        Edge.worth(sentence, 0, 28, 20, 0, 20, LEAST);
        Edge.worth(sentence, 0, 28, 20, 4, 20, 5);
        Edge.worth(sentence, 0, 28, 20, 6, 20, 5);
        Edge.worth(sentence, 1, 28, 20, 0, 20, 0);
    }

    private static void notOf() {
        String sentence = "29 E: 1 if it is 0, else 0";
        Edge.worth(sentence, 1, 29, 20, 0);
        for (int n : row(1, -1, 2, LEAST, GREATEST)) {
            Edge.worth(sentence, 0, 29, 20, n);
        }
    }

    private static void and() {
        String sentence = "30: 0 if the first is 0, else 1 if the second is not 0, else 0";
        for (int n : row(1, -1, 7, LEAST, GREATEST)) {
            Edge.worth(sentence, 0, 30, 20, 0, 20, n);
            Edge.worth(sentence, 0, 30, 20, n, 20, 0);
            Edge.worth(sentence, 1, 30, 20, 3, 20, n);
            Edge.worth(sentence, 1, 30, 20, n, 20, 3);
        }
        Edge.worth(sentence, 0, 30, 20, 0, 20, 0);
    }

    private static void or() {
        String sentence = "31: 1 if the first is not 0, else 1 if the second is not 0, else 0";
        for (int n : row(1, -1, 7, LEAST, GREATEST)) {
            Edge.worth(sentence, 1, 31, 20, 0, 20, n);
            Edge.worth(sentence, 1, 31, 20, n, 20, 0);
            Edge.worth(sentence, 1, 31, 20, n, 20, n);
        }
        Edge.worth(sentence, 0, 31, 20, 0, 20, 0);
    }

    private static void secondOneIsNotWorkedOut() {
        String sentence = "the second one is not worked out";
        Edge.worth(sentence, 0, 30, 20, 0, 25, 20, 1, 20, 0);
        Edge.worth(sentence, 1, 31, 20, -1, 25, 20, 1, 20, 0);
        done(sentence, 0, withFunctions(7, 30, 20, 0, 36, 7, 20, 3)).tells(0);
        done(sentence, 0, withFunctions(7, 31, 20, 9, 36, 7, 20, 3)).tells(1);
        done("the second one is worked out", 0, withFunctions(7, 30, 20, 9, 36, 7, 20, 3)).tells(3, 1);
        done("the second one is worked out", 0, withFunctions(7, 31, 20, 0, 36, 7, 20, 3)).tells(3, 1);
        Edge.of("the second one is worked out").program(11, 7, 30, 20, 1, 25, 20, 1, 20, 0, 0).ends(MapMachine.DIV_ZERO, 0);
        Edge.of("the second one is worked out").program(11, 7, 31, 20, 0, 25, 20, 1, 20, 0, 0).ends(MapMachine.DIV_ZERO, 0);
        // 1 0 13 x, 1 0, 15 0: the run's steps; 7 30 20: those from the tokens
        done(sentence, 0, 11, 7, 30, 20, 0, 20, 5, 0).tells(0).steps(5, 3);
        done("the second one is worked out", 0, 11, 7, 30, 20, 4, 20, 5, 0).tells(1).steps(8, 4);
    }

    private static void valueOfKey() {
        String sentence = "32 M E: the value of that key, 0 without one";
        Edge.worth(sentence, 0, 32, 41, 20, 0);
        Edge.worth(sentence, 7, 32, 42, 41, 20, 0, 20, 7, 20, 0);
        Edge.worth(sentence, 0, 32, 42, 41, 20, 1, 20, 7, 20, 0);
        Edge.worth(sentence, 0, 32, 42, 41, 20, 1, 20, 7, 20, 2);
        Edge.worth(sentence, LEAST, 32, 42, 41, 20, LEAST, 20, LEAST, 20, LEAST);
        Edge.worth(sentence, 0, 32, 42, 41, 20, LEAST, 20, 7, 20, GREATEST);
    }

    private static void isThereThatKey() {
        String sentence = "33 M E: 1 if there is that key, else 0";
        Edge.worth(sentence, 0, 33, 41, 20, 0);
        Edge.worth(sentence, 1, 33, 42, 41, 20, 0, 20, 0, 20, 0);
        Edge.worth(sentence, 0, 33, 42, 41, 20, 1, 20, 7, 20, 0);
        Edge.worth(sentence, 0, 33, 42, 41, 20, 1, 20, 7, 20, 2);
        Edge.worth(sentence, 1, 33, 42, 41, 20, GREATEST, 20, 7, 20, GREATEST);
    }

    private static void howManyKeys() {
        String sentence = "34 M: how many keys";
        Edge.worth(sentence, 0, 34, 41);
        Edge.worth(sentence, 0, 34, 40, 0);
        Edge.worth(sentence, 1, 34, 42, 41, 20, 0, 20, 0);
        Edge.worth(sentence, 3, 34, 42, 42, 42, 41, 20, LEAST, 20, 0, 20, GREATEST, 20, 0, 20, 0, 20, 0);
        Edge.worth(sentence, 0, 34, 43, 42, 41, 20, 0, 20, 0, 20, 0);
    }

    private static void greatestKeyNotGreater() {
        String sentence = "35: the greatest key that is not greater than the first, the second one if there is none";
        Edge.worth(sentence, -4, 35, 41, 20, 9, 20, -4);
        Edge.worth(sentence, 5, 35, 42, 41, 20, 5, 20, 0, 20, 5, 20, -4);
        Edge.worth(sentence, -4, 35, 42, 41, 20, 5, 20, 0, 20, 4, 20, -4);
        Edge.worth(sentence, 5, 35, 42, 41, 20, 5, 20, 0, 20, 6, 20, -4);
        Edge.worth(sentence, LEAST, 35, 42, 41, 20, LEAST, 20, 0, 20, LEAST, 20, -4);
        Edge.worth(sentence, GREATEST, 35, 42, 41, 20, GREATEST, 20, 0, 20, GREATEST, 20, -4);
        Edge.worth(sentence, -4, 35, 42, 41, 20, GREATEST, 20, 0, 20, GREATEST - 1, 20, -4);
        int[] fiveAndNine = row(35, 42, 42, 41, 20, 5, 20, 0, 20, 9, 20, 0, 20);
        int[] first = row(LEAST, 4, 5, 6, 8, 9, 10, GREATEST);
        int[] want = row(77, 77, 5, 5, 5, 9, 9, 9);
        for (int i = 0; i < first.length; i++) {
            Edge.worth(sentence, want[i], Feed.joined(fiveAndNine, row(first[i], 20, 77)));
        }
        Edge.of("the second one is worked out all the same")
            .program(11, 7, 35, 42, 41, 20, 5, 20, 0, 20, 5, 25, 20, 1, 20, 0, 0).ends(MapMachine.DIV_ZERO, 0).tells();
    }

    /** A tree with keys on both sides of its top, and each key that there may be. */
    private static void everyKeyOfATree() {
        int[] keys = {2, 4, 6, 8, 10, 12, 14};
        int[] filling = {11};
        for (int key : keys) {
            filling = Feed.joined(filling, row(2, 0, 42, 40, 0, 20, key, 20, 100 + key));
        }
        int[] telling = row(1, 1, 20, 1, 5, 27, 21, 1, 20, 16, 7, 32, 40, 0, 21, 1, 7, 33, 40, 0, 21, 1, 7, 35, 40, 0, 21, 1, 20, -5,
            1, 1, 22, 21, 1, 20, 1, 0, 0);
        int[] want = new int[45];
        for (int n = 1; n <= 15; n++) {
            boolean there = n % 2 == 0;
            want[3 * n - 3] = there ? 100 + n : 0;
            want[3 * n - 2] = there ? 1 : 0;
            want[3 * n - 1] = n == 1 ? -5 : n - n % 2;
        }
        for (int seed = 0; seed < 8; seed++) {
            Edge.of("32, 33 and 35 of every key").init(seed, 300).program(Feed.joined(filling, telling)).done().tells(want);
        }
    }

    private static void answerAtTheEnd() {
        String sentence = "36: what f answers (0 if it comes to its end)";
        done(sentence, 0, 10, 3, 0, 0, 11, 7, 36, 3, 0).tells(0);
        done(sentence, 0, 10, 3, 1, 3, 21, 8, 9, 21, 8, 0, 0, 11, 7, 36, 3, 20, 5, 7, 36, 3, 20, 0, 7, 36, 3, 20, LEAST, 0)
            .tells(5, 0, LEAST);
        done(sentence, 0, 10, 3, 0, 1, 0, 20, 8, 0, 11, 7, 36, 3, 0).tells(0).variable(0, 8);
    }

    // ---- M

    private static void withThatKey() {
        String sentence = "42 M E E: with that key and value (instead of the one it has)";
        done(sentence, 0, 11, 2, 0, 42, 41, 20, 5, 20, 6, 0).map(0, 5, 6);
        done(sentence, 0, 11, 2, 0, 42, 42, 41, 20, 5, 20, 6, 20, 5, 20, 7, 0).map(0, 5, 7);
        done(sentence, 0, 11, 2, 0, 42, 42, 42, 41, 20, 5, 20, 6, 20, 4, 20, 1, 20, 5, 20, 0, 0).map(0, 4, 1, 5, 0);
        done(sentence, 0, 11, 2, 0, 42, 42, 41, 20, GREATEST, 20, LEAST, 20, LEAST, 20, GREATEST, 0)
            .map(0, LEAST, GREATEST, GREATEST, LEAST);
        // the map it was made of stays as it was
        done(sentence, 0, 11, 2, 0, 42, 41, 20, 5, 20, 6, 2, 1, 42, 40, 0, 20, 5, 20, 7, 0).map(0, 5, 6).map(1, 5, 7);
    }

    private static void withoutThatKey() {
        String sentence = "43 M E: without that key";
        done(sentence, 0, 11, 2, 0, 43, 41, 20, 0, 0).map(0);
        done(sentence, 0, 11, 2, 0, 43, 42, 41, 20, 5, 20, 6, 20, 5, 0).map(0);
        done(sentence, 0, 11, 2, 0, 43, 42, 41, 20, 5, 20, 6, 20, 6, 0).map(0, 5, 6);
        done(sentence, 0, 11, 2, 0, 42, 42, 41, 20, 5, 20, 6, 20, 3, 20, 4, 2, 1, 43, 40, 0, 20, 3, 2, 2, 43, 40, 0, 20, 5, 0)
            .map(0, 3, 4, 5, 6).map(1, 5, 6).map(2, 3, 4);
    }

    private static void allKeysOfBoth() {
        String sentence = "44 M M: all keys of both; for those of both the value of the second";
        done(sentence, 0, 11, 2, 0, 44, 41, 41, 0).map(0);
        done(sentence, 0, 11, 2, 0, 44, 42, 41, 20, 5, 20, 6, 41, 0).map(0, 5, 6);
        done(sentence, 0, 11, 2, 0, 44, 41, 42, 41, 20, 5, 20, 6, 0).map(0, 5, 6);
        done(sentence, 0, 11, 2, 0, 44, 42, 41, 20, 5, 20, 6, 42, 41, 20, 5, 20, 7, 0).map(0, 5, 7);
        // each key of {1, 2, 3} is once above all others, whatever the ranks
        for (int seed = 0; seed < 12; seed++) {
            Edge.of(sentence).init(seed, 300).program(11, 2, 0, 42, 42, 42, 41, 20, 1, 20, 10, 20, 2, 20, 20, 20, 3, 20, 30,
                2, 1, 42, 42, 42, 41, 20, 2, 20, 21, 20, 3, 20, 31, 20, 4, 20, 41, 2, 2, 44, 40, 0, 40, 1, 2, 3, 44, 40, 1, 40, 0, 0)
                .done().map(2, 1, 10, 2, 21, 3, 31, 4, 41).map(3, 1, 10, 2, 20, 3, 30, 4, 41)
                .map(0, 1, 10, 2, 20, 3, 30).map(1, 2, 21, 3, 31, 4, 41);
        }
    }

    // ---- S

    private static void ifNotZero() {
        String sentence = "3: if E is not 0 the first, else the second ones";
        int[] both = row(11, 3, 21, 0, 7, 20, 1, 4, 7, 20, 2, 0, 7, 20, 3, 0);
        done(sentence, 0, both).tells(2, 3);
        for (int n : row(1, -1, 2, LEAST, GREATEST)) {
            done(sentence, n, both).tells(1, 3);
        }
        int[] alone = row(11, 3, 21, 0, 7, 20, 1, 0, 7, 20, 3, 0);
        done("3 without 4", 0, alone).tells(3);
        done("3 without 4", LEAST, alone).tells(1, 3);
        // 4 is of the inner 3
        int[] nested = row(11, 3, 20, 1, 3, 21, 0, 7, 20, 1, 4, 7, 20, 2, 0, 4, 7, 20, 4, 0, 0);
        done("3 in 3", 0, nested).tells(2);
        done("3 in 3", 1, nested).tells(1);
    }

    private static void ifWithoutStatements() {
        String sentence = "3 with no S";
        for (int n : row(0, 5)) {
            done(sentence, n, 11, 3, 21, 0, 0, 7, 20, 3, 0).tells(3);
            done(sentence, n, 11, 3, 21, 0, 4, 0, 7, 20, 3, 0).tells(3);
        }
        done(sentence, 0, 11, 3, 21, 0, 4, 7, 20, 2, 0, 7, 20, 3, 0).tells(2, 3);
        done(sentence, 5, 11, 3, 21, 0, 4, 7, 20, 2, 0, 7, 20, 3, 0).tells(3);
        done(sentence, 0, 11, 3, 21, 0, 7, 20, 1, 4, 0, 7, 20, 3, 0).tells(3);
        done(sentence, 5, 11, 3, 21, 0, 7, 20, 1, 4, 0, 7, 20, 3, 0).tells(1, 3);
    }

    private static void asLongAs() {
        String sentence = "5 E: as long as E is not 0";
        int[] upwards = row(11, 5, 21, 0, 7, 21, 0, 1, 0, 22, 21, 0, 20, 1, 0, 7, 20, 9, 0);
        done(sentence, 0, upwards).tells(9);
        done(sentence, -1, upwards).tells(-1, 9);
        done(sentence, -3, upwards).tells(-3, -2, -1, 9);
        done(sentence, 0, 11, 5, 20, 0, 0, 7, 20, 9, 0).tells(9);
        // without S: E is all that is done, again and again
        done(sentence, 0, 10, 0, 0, 1, 1, 22, 21, 1, 20, 1, 9, 27, 21, 1, 20, 4, 0, 11, 5, 36, 0, 0, 7, 21, 1, 0).tells(4);
        Edge.of(sentence).program(11, 5, 20, 1, 0, 0).ends(MapMachine.OUT_OF_FUEL, 0);
    }

    private static void eachKeyOfNone() {
        String sentence = "6 for each key: there is none";
        done(sentence, 0, 11, 1, 1, 20, 5, 1, 2, 20, 6, 6, 0, 1, 2, 7, 20, 1, 0, 7, 21, 1, 7, 21, 2, 0).tells(5, 6);
        done("6 with no S", 0, 11, 2, 0, 42, 42, 41, 20, 5, 20, 6, 20, 7, 20, 8, 6, 0, 1, 2, 0, 7, 21, 1, 7, 21, 2, 0).tells(7, 8);
    }

    private static void eachKeyLeastFirst() {
        String sentence = "6: the least first";
        for (int m : row(0, 3, 4, 5)) {
            done(sentence, 0, 11, 2, m, 42, 42, 42, 42, 42, 41, 20, 1, 20, 10, 20, GREATEST, 20, 11, 20, 0, 20, 12,
                20, LEAST, 20, 13, 20, -1, 20, 14, 6, m, 1, 2, 7, 21, 1, 7, 21, 2, 0, 0)
                .tells(LEAST, 13, -1, 14, 0, 12, 1, 10, GREATEST, 11);
        }
    }

    private static void mapAsItIsNow() {
        String sentence = "6: for each key of map m as it is now";
        int[] twoKeys = row(11, 2, 0, 42, 42, 41, 20, 5, 20, 50, 20, 7, 20, 70);
        done(sentence + " (it gets one)", 0, Feed.joined(twoKeys, row(6, 0, 1, 2, 7, 21, 1, 2, 0, 42, 40, 0, 20, 6, 20, 60, 0, 0)))
            .tells(5, 7).map(0, 5, 50, 6, 60, 7, 70);
        done(sentence + " (it loses one)", 0, Feed.joined(twoKeys, row(6, 0, 1, 2, 7, 21, 1, 2, 0, 43, 40, 0, 20, 7, 0, 0)))
            .tells(5, 7).map(0, 5, 50);
        done(sentence + " (a value changes)", 0, Feed.joined(twoKeys, row(6, 0, 1, 2, 7, 21, 2, 2, 0, 42, 40, 0, 20, 7, 20, 1, 0, 0)))
            .tells(50, 70).map(0, 5, 50, 7, 1);
        done(sentence + " (it is emptied)", 0, Feed.joined(twoKeys, row(6, 0, 1, 2, 7, 21, 1, 2, 0, 41, 0, 0))).tells(5, 7).map(0);
        done(sentence + " (v changes)", 0, Feed.joined(twoKeys, row(6, 0, 1, 2, 7, 21, 1, 1, 1, 20, 99, 0, 0))).tells(5, 7);
        // in itself: each time from the least one on
        done(sentence + " (6 in 6)", 0, Feed.joined(twoKeys, row(6, 0, 1, 2, 6, 0, 3, 4, 7, 21, 3, 0, 7, 21, 1, 0, 0)))
            .tells(5, 7, 5, 5, 7, 7);
        // once more: from the least one on
        done(sentence + " (in 5)", 0, Feed.joined(twoKeys, row(1, 0, 20, 2, 5, 21, 0, 6, 0, 1, 2, 7, 21, 1, 0,
            1, 0, 23, 21, 0, 20, 1, 0, 0))).tells(5, 7, 5, 7);
    }

    private static void keyAndValue() {
        String sentence = "6: v is the key, w its value";
        int[] oneKey = row(11, 2, 0, 42, 41, 20, 5, 20, 50);
        done(sentence, 0, Feed.joined(oneKey, row(6, 0, 7, 8, 7, 21, 7, 7, 21, 8, 0, 7, 21, 8, 0))).tells(5, 50, 50).variable(7, 5);
        done(sentence, 0, Feed.joined(oneKey, row(6, 0, 13, 0, 7, 21, 13, 7, 21, 0, 0, 0))).tells(5, 50).variable(0, 50);
        done(sentence + " (one variable for both)", 0, Feed.joined(oneKey, row(6, 0, 3, 3, 7, 21, 3, 0, 0))).tells(50).variable(3, 50);
    }

    private static void functionIsCalled() {
        String sentence = "8 f: f is called";
        done(sentence, 0, 10, 0, 0, 9, 20, 5, 0, 11, 8, 0, 7, 20, 1, 0).tells(1);
        done(sentence, 0, 10, 0, 0, 0, 11, 8, 0, 7, 20, 1, 0).tells(1);
        done(sentence, 0, withFunctions(8, 6, 20, 1, 20, 2, 20, 3, 7, 22, 20, 4, 36, 7, 20, 5)).tells(1, 2, 3, 5, 9);
        // what it answers is used by nobody
        done(sentence, 0, withFunctions(8, 7, 20, 1, 7, 23, 20, 9, 20, 4)).tells(1, 5);
    }

    private static void functionsAnswer() {
        String sentence = "9 E: the function's answer";
        done(sentence, 0, 10, 0, 0, 9, 20, 5, 7, 20, 1, 0, 11, 7, 36, 0, 7, 20, 2, 0).tells(5, 2);
        done(sentence, 0, 10, 0, 0, 9, 20, LEAST, 0, 11, 7, 36, 0, 0).tells(LEAST);
        done(sentence + " within 3 and 5", 0, 10, 0, 0, 5, 20, 1, 3, 20, 1, 9, 20, 5, 0, 0, 0, 11, 7, 22, 36, 0, 36, 0, 0).tells(10);
        done(sentence + " behind 4", 0, 10, 0, 0, 3, 20, 0, 4, 9, 20, 5, 7, 20, 6, 0, 7, 20, 7, 0, 11, 7, 36, 0, 7, 20, 8, 0).tells(5, 8);
        done(sentence + " within 6 in 6", 0, 10, 0, 0, 6, 0, 8, 9, 6, 0, 10, 11, 9, 21, 11, 0, 0, 0,
            11, 2, 0, 42, 42, 41, 20, 5, 20, 6, 20, 7, 20, 8, 6, 0, 1, 2, 7, 22, 21, 1, 36, 0, 0, 7, 34, 40, 0, 0).tells(11, 13, 2);
    }

    private static void endOfMain() {
        String sentence = "9 E in MAIN: the end; E is worked out";
        done(sentence, 0, withFunctions(7, 20, 1, 9, 36, 7, 20, 5, 7, 20, 2)).tells(1, 5);
        done(sentence, 0, 11, 9, 20, 5, 0).tells().steps(3, 2).nextWord(4);
        done(sentence + " within 3, 5 and 6", 0, 11, 2, 0, 42, 41, 20, 5, 20, 6, 5, 20, 1, 3, 20, 1, 6, 0, 1, 2, 9, 20, 4, 0, 0, 0, 7, 20, 2, 0)
            .tells().variable(1, 5);
        Edge.of(sentence).program(11, 9, 25, 20, 1, 20, 0, 0).ends(MapMachine.DIV_ZERO, 0);
        // a function's 9 is no end of MAIN
        done(sentence, 0, withFunctions(9, 22, 36, 7, 20, 5, 36, 7, 20, 6)).tells(5, 6);
    }

    // ---- variables and maps

    private static void variablesOfAll() {
        String sentence = "VARIABLES v: 0 .. 7 are those of all";
        int[] setting = {};
        int[] telling = {};
        int[] want = new int[14];
        for (int v = 0; v < 14; v++) {
            setting = Feed.joined(setting, row(1, v, 20, 100 + v));
            telling = Feed.joined(telling, row(7, 21, v));
            want[v] = 100 + v;
        }
        done(sentence + " (each is another one)", 0, Feed.joined(row(11), setting, telling, row(0))).tells(want);
        Edge edge = done(sentence, 0, Feed.joined(row(10, 0, 0), setting, row(0, 11, 8, 0), telling, row(0)));
        edge.tells(100, 101, 102, 103, 104, 105, 106, 107, 0, 0, 0, 0, 0, 0);
        for (int v = 0; v < 14; v++) {
            edge.variable(v, v < 8 ? 100 + v : 0);
        }
        int[] maps = {};
        int[] sizes = {};
        for (int m = 0; m < 6; m++) {
            maps = Feed.joined(maps, row(2, m, 42, 41, 20, 10 + m, 20, m));
            sizes = Feed.joined(sizes, row(7, 35, 40, m, 20, 99, 20, -1));
        }
        done("MAPS m: 0 .. 3 of all (each is another one)", 0, Feed.joined(row(11), maps, sizes, row(0))).tells(10, 11, 12, 13, 14, 15);
        done("MAPS m: 0 .. 3 of all", 0, Feed.joined(row(10, 0, 0), maps, row(0, 11, 8, 0), sizes, row(0)))
            .tells(10, 11, 12, 13, -1, -1).map(0, 10, 0).map(3, 13, 3);
    }

    private static void variablesOfACall() {
        String sentence = "8 .. 13 those of a call (the parameters from 8 on; others 0)";
        int[] tellOwn = row(7, 21, 8, 7, 21, 9, 7, 21, 10, 7, 21, 11, 7, 21, 12, 7, 21, 13);
        done(sentence, 0, Feed.joined(row(10, 0, 0), tellOwn, row(0, 11, 1, 8, 20, 9, 8, 0, 0))).tells(0, 0, 0, 0, 0, 0);
        done(sentence, 0, Feed.joined(row(10, 0, 1), tellOwn, row(0, 11, 1, 9, 20, 9, 8, 0, 20, 1, 0))).tells(1, 0, 0, 0, 0, 0);
        done(sentence, 0, Feed.joined(row(10, 0, 2), tellOwn, row(0, 11, 8, 0, 20, 1, 20, 2, 0))).tells(1, 2, 0, 0, 0, 0);
        done(sentence, 0, Feed.joined(row(10, 0, 3), tellOwn, row(0, 11, 8, 0, 20, 1, 20, 2, 20, 3, 0))).tells(1, 2, 3, 0, 0, 0);
        // f of n calls f of n - 1, and has its own n then
        done(sentence, 3, 10, 0, 1, 3, 21, 8, 8, 0, 23, 21, 8, 20, 1, 7, 21, 8, 0, 0, 11, 8, 0, 21, 0, 0).tells(1, 2, 3);
    }

    private static void othersAreZero() {
        String sentence = "others 0, in each call anew";
        int[] tellOwn = row(7, 21, 8, 7, 21, 9, 7, 21, 13);
        int[] spoilOwn = row(1, 8, 20, 5, 1, 9, 20, 6, 1, 13, 20, 7);
        done(sentence, 0, Feed.joined(row(10, 0, 1), tellOwn, spoilOwn, row(0, 11, 8, 0, 20, 1, 8, 0, 20, 2, 0))).tells(1, 0, 0, 2, 0, 0);
        // one call deeper, where a call has been before
        done(sentence, 0, Feed.joined(row(10, 0, 0), tellOwn, spoilOwn, row(0, 10, 1, 0, 8, 0, 0, 11, 8, 1, 8, 1, 0)))
            .tells(0, 0, 0, 0, 0, 0);
    }

    private static void mapsOfACall() {
        String sentence = "4 and 5 of a call (at first without keys)";
        int[] tellOwn = row(7, 34, 40, 4, 7, 34, 40, 5);
        int[] fillOwn = row(2, 4, 42, 41, 20, 1, 20, 1, 2, 5, 42, 40, 4, 20, 2, 20, 2);
        done(sentence, 0, Feed.joined(row(10, 0, 0), tellOwn, fillOwn, tellOwn, row(0, 11), fillOwn, row(8, 0, 8, 0), tellOwn, row(0)))
            .tells(0, 0, 1, 2, 0, 0, 1, 2, 1, 2);
        // f of n has a key more than f of n - 1 that it calls
        done(sentence, 3, 10, 0, 1, 3, 21, 8, 2, 4, 42, 41, 21, 8, 20, 0, 8, 0, 23, 21, 8, 20, 1, 7, 35, 40, 4, 20, 99, 20, -1, 0, 0,
            11, 8, 0, 21, 0, 0).tells(1, 2, 3);
    }

    private static void mainsOwn() {
        String sentence = "MAIN has its own 8 .. 13, 4, 5";
        int[] tellOwn = row(7, 21, 8, 7, 21, 13, 7, 34, 40, 4, 7, 34, 40, 5);
        int[] fillOwn = row(1, 8, 20, 5, 1, 13, 20, 6, 2, 4, 42, 41, 20, 1, 20, 1, 2, 5, 40, 4);
        Edge edge = done(sentence, 0, Feed.joined(row(10, 0, 0), fillOwn, row(0, 11), tellOwn, row(8, 0), tellOwn, fillOwn, tellOwn, row(0)));
        edge.tells(0, 0, 0, 0, 0, 0, 0, 0, 5, 6, 1, 1);
        // when it begins once more they are as at first
        edge.ends(MapMachine.DONE, 0).tells(0, 0, 0, 0, 0, 0, 0, 0, 5, 6, 1, 1);
    }

    // ---- order

    private static int[] told(int n) {
        return row(36, 7, 20, n);
    }

    private static void workedOutInItsOrder() {
        String sentence = "what stands behind a token is worked out in its order";
        int[] results = {9, -3, 18, 0, 3, 1, 0};
        for (int token = 22; token <= 28; token++) {
            done(sentence, 0, withFunctions(Feed.joined(row(7, token), told(3), told(6)))).tells(3, 6, results[token - 22]);
        }
        done(sentence, 0, withFunctions(Feed.joined(row(7, 30), told(3), told(6)))).tells(3, 6, 1);
        done(sentence, 0, withFunctions(Feed.joined(row(7, 31), told(0), told(6)))).tells(0, 6, 1);
        int[] map = Feed.joined(row(42, 41), told(1), told(2));
        done(sentence, 0, withFunctions(Feed.joined(row(7, 32), map, told(1)))).tells(1, 2, 1, 2);
        done(sentence, 0, withFunctions(Feed.joined(row(7, 33), map, told(3)))).tells(1, 2, 3, 0);
        done(sentence, 0, withFunctions(Feed.joined(row(7, 35), map, told(3), told(4)))).tells(1, 2, 3, 4, 1);
        done(sentence, 0, withFunctions(Feed.joined(row(2, 0, 42), map, told(3), told(4)))).tells(1, 2, 3, 4).map(0, 1, 2, 3, 4);
        done(sentence, 0, withFunctions(Feed.joined(row(2, 0, 43), map, told(1)))).tells(1, 2, 1).map(0);
        done(sentence, 0, withFunctions(Feed.joined(row(2, 0, 44), map, row(42, 41), told(3), told(4)))).tells(1, 2, 3, 4).map(0, 1, 2, 3, 4);
        done(sentence, 0, withFunctions(Feed.joined(row(8, 6), told(1), told(2), told(3)))).tells(1, 2, 3, 1, 2, 3);
        done(sentence, 0, withFunctions(Feed.joined(row(7, 36, 6), told(1), told(2), told(3)))).tells(1, 2, 3, 1, 2, 3, 0);
    }

    private static void orderSeenByChanges() {
        String sentence = "what is worked out first is as it was then";
        done(sentence, 7, withFunctions(7, 23, 21, 0, 36, 5)).tells(6);
        done(sentence, 7, withFunctions(7, 23, 36, 5, 21, 0)).tells(-99);
        done(sentence, 7, withFunctions(1, 0, 36, 5)).variable(0, 1);
        done(sentence, 7, withFunctions(2, 0, 42, 40, 0, 20, 1, 36, 5)).map(0, 1, 1);
        done(sentence, 7, withFunctions(2, 1, 44, 40, 0, 42, 41, 20, 2, 36, 5)).map(1, 2, 1).map(0, 9, 9);
        done(sentence, 7, withFunctions(2, 1, 44, 42, 41, 20, 2, 36, 5, 40, 0)).map(1, 2, 1, 9, 9);
        done(sentence, 7, withFunctions(8, 6, 21, 0, 36, 5, 21, 0)).tells(7, 1, 100);
    }

    /** What was worked out and waits is not touched by what comes between. */
    private static void whatWaits() {
        String sentence = "what waits is used by its own token alone";
        Edge.worth(sentence, 4, 23, 20, 5, 34, 42, 41, 20, 1, 20, 2);
        Edge.worth(sentence, 4, 23, 20, 5, 34, 43, 42, 41, 20, 1, 20, 2, 20, 9);
        Edge.worth(sentence, 5, 23, 20, 5, 34, 43, 42, 41, 20, 1, 20, 2, 20, 1);
        Edge.worth(sentence, 3, 23, 20, 5, 34, 44, 42, 41, 20, 1, 20, 2, 42, 41, 20, 3, 20, 4);
        Edge.worth(sentence, 3, 23, 20, 5, 32, 42, 41, 20, 1, 20, 2, 20, 1);
        Edge.worth(sentence, 4, 23, 20, 5, 33, 42, 41, 20, 1, 20, 2, 20, 1);
        Edge.worth(sentence, 2, 23, 20, 5, 35, 42, 41, 20, 3, 20, 4, 20, 7, 20, 8);
        Edge.worth(sentence, 4, 23, 20, 5, 30, 20, 3, 20, 4);
        Edge.worth(sentence, 5, 23, 20, 5, 30, 20, 0, 20, 4);
        Edge.worth(sentence, 4, 23, 20, 5, 31, 20, 3, 20, 4);
        Edge.worth(sentence, 4, 23, 20, 5, 31, 20, 0, 20, 4);
        // a map waits while others are made and used
        done(sentence, 0, 11, 2, 0, 42, 42, 41, 20, 1, 20, 2, 34, 42, 42, 41, 20, 5, 20, 6, 20, 7, 20, 8, 32, 42, 41, 20, 3, 20, 9, 20, 3, 0)
            .map(0, 1, 2, 2, 9);
        // and while a function is called that goes over maps, and answers from within
        done(sentence, 0, 10, 0, 0, 2, 4, 42, 42, 41, 20, 5, 20, 6, 20, 7, 20, 8, 6, 4, 8, 9, 9, 21, 9, 0, 0,
            11, 7, 23, 20, 10, 36, 0, 2, 0, 42, 42, 41, 20, 1, 36, 0, 36, 0, 24, 36, 0, 36, 0, 0).tells(4).map(0, 1, 6, 6, 36);
    }

    // ---- ENDS

    /** f of n calls f of n - 1 till n is 0, by 8 or by 36, and tells n on the way back. */
    private static int[] goingDown(int token) {
        int[] call = token == 8 ? row(8, 0, 23, 21, 8, 20, 1) : row(1, 9, 36, 0, 23, 21, 8, 20, 1);
        return Feed.joined(row(10, 0, 1, 3, 21, 8), call, row(0, 7, 21, 8, 0, 11), row(8, 0, 21, 0, 0));
    }

    private static void stackFull() {
        String sentence = "STACK_FULL (a 25th call under way, MAIN not counted)";
        for (int token : row(8, 36)) {
            Edge.of(sentence).program(goingDown(token)).ends(MapMachine.DONE, 23).toldCount(24).calls(0);
            Edge.of(sentence).program(goingDown(token)).ends(MapMachine.STACK_FULL, 24).toldCount(0).calls(24);
            Edge.of(sentence).program(goingDown(token)).ends(MapMachine.STACK_FULL, 1000).toldCount(0).calls(24);
        }
        // the parameters of the 25th are worked out before it
        Edge.of(sentence).program(10, 0, 1, 8, 0, 22, 21, 8, 20, 1, 0, 11, 8, 0, 20, 1, 0).ends(MapMachine.STACK_FULL, 0).calls(24);
        Edge.of(sentence + ", its parameter divides by 0")
            .program(10, 0, 1, 8, 0, 22, 21, 8, 25, 23, 20, 24, 21, 8, 23, 20, 24, 21, 8, 0, 11, 8, 0, 20, 1, 0)
            .ends(MapMachine.DIV_ZERO, 0).calls(24);
    }

    /** Function 0 goes one deeper as long as variable 0 is not 0. */
    private static int[] deeper(int[]... statements) {
        return Feed.joined(row(10, 0, 0, 3, 21, 0, 1, 0, 23, 21, 0, 20, 1), Feed.joined(statements), row(0, 0));
    }

    /** In each of 23 calls two parameters wait at each of 13 depths for a third, which is what the next call answers. */
    private static void numbersWaitingInCalls() {
        int[] adding = row(10, 1, 3, 9, 22, 21, 8, 22, 21, 9, 21, 10, 0);
        int[] program = Feed.joined(adding, deeper(row(9), Feed.repeated(13, 36, 1, 20, 1, 20, 1), row(36, 0)), row(11, 7, 36, 0, 0));
        Edge.of("numbers that wait in 24 calls").program(program).ends(MapMachine.DONE, 23).tells(598);
        Edge.of("numbers that wait in 25 calls").program(program).ends(MapMachine.STACK_FULL, 24).tells();
    }

    /** In each of 23 calls 13 maps wait for a value, which is what the next call answers, and one more. */
    private static void mapsWaitingInCalls() {
        int[] program = Feed.joined(
            deeper(row(2, 4), Feed.repeated(12, 44, 41), row(42, 41, 20, 1, 36, 0), row(9, 22, 20, 1, 32, 40, 4, 20, 1)), row(11, 7, 36, 0, 0));
        Edge.of("maps that wait in 24 calls").program(program).ends(MapMachine.DONE, 23).tells(23);
        Edge.of("maps that wait in 25 calls").program(program).ends(MapMachine.STACK_FULL, 24).tells();
    }

    /** In MAIN and in each of 24 calls 16 tokens are begun, one within the other. */
    private static void deepInEachCall() {
        int[] nest = Feed.joined(Feed.repeated(6, 3, 20, 1), row(7), Feed.repeated(7, 29));
        int[] program = Feed.joined(
            deeper(nest, row(36, 0), Feed.repeated(6, 0), row(4), nest, row(20, 1), Feed.repeated(6, 0)),
            row(11, 3, 20, 1), nest, row(36, 0), Feed.repeated(7, 0), row(0));
        int[] want = new int[25];
        java.util.Arrays.fill(want, 1, 25, 1);
        Edge.of("16 tokens deep in 24 calls").program(program).ends(MapMachine.DONE, 23).tells(want);
        Edge.of("16 tokens deep in 25 calls").program(program).ends(MapMachine.STACK_FULL, 24).tells();
    }

    /** However often it was left in the middle, with all that waited there: it begins anew. */
    private static void leftInTheMiddle() {
        int[] program = Feed.joined(deeper(row(9), Feed.repeated(10, 22, 20, 1), row(34), row(42, 42, 41, 20, 1, 20, 1, 20, 2, 36, 0)),
            row(11, 2, 0, 42, 41, 20, 5, 20, 6, 6, 0, 1, 2, 7, 36, 0, 0, 0));
        Edge edge = Edge.of("left in the middle").program(program);
        for (int i = 0; i < 30; i++) {
            edge.ends(MapMachine.STACK_FULL, 24);
        }
        // each call that goes deeper answers 10 and how many keys its map has, which is 2
        edge.ends(MapMachine.DONE, 23).tells(12).live(1, 1);
        Careful x = Careful.with(program);
        for (int i = 0; i < 100; i++) {
            Check.due("left in the middle", x.interpret(24, 300 + i), MapMachine.OUT_OF_FUEL);
            x.start(24);
            Check.due("left in the middle", x.run(300 + i), MapMachine.OUT_OF_FUEL);
        }
        Check.due("begun anew", x.interpret(23, 5000), MapMachine.DONE);
        Check.due("begun anew", x.out(0), 12);
        x.start(23);
        Check.due("begun anew", x.run(5000), MapMachine.DONE);
        Check.due("begun anew", x.out(0), 12);
    }

    private static void callsOneBehindTheOther() {
        String sentence = "calls that came back are not under way";
        // 1350 calls: from the tokens 27 21 21, 8 8 8, 1 22 21 20 in each round, which is less than 5000 steps in all
        done(sentence, 450, 10, 0, 0, 0, 11, 5, 27, 21, 1, 21, 0, 8, 0, 8, 0, 8, 0, 1, 1, 22, 21, 1, 20, 1, 0,
            7, 21, 1, 7, 22, 20, 1, 20, 2, 0).tells(450, 3).calls(0);
        done(sentence, 0, 10, 0, 0, 9, 20, 1, 0, 10, 1, 0, 8, 0, 0,
            11, 1, 1, 20, 100, 5, 21, 1, 8, 1, 8, 0, 1, 1, 23, 21, 1, 36, 0, 0, 7, 20, 3, 0).tells(3).calls(0);
    }

    private static void outFull() {
        String sentence = "OUT_FULL (a 301st number to be told)";
        int[] telling = row(11, 5, 21, 0, 7, 21, 0, 1, 0, 23, 21, 0, 20, 1, 0, 1, 1, 20, 5, 0);
        Edge.of(sentence).program(telling).ends(MapMachine.DONE, 300).toldCount(300).variable(0, 0).variable(1, 5);
        Edge.of(sentence).program(telling).ends(MapMachine.OUT_FULL, 301).toldCount(300).variable(0, 1).variable(1, 0);
        // its E is worked out: the division by 0 comes first
        Edge.of(sentence).program(11, 1, 1, 20, 300, 5, 20, 1, 7, 25, 20, 1, 21, 1, 1, 1, 23, 21, 1, 20, 1, 0, 0)
            .ends(MapMachine.DIV_ZERO, 0).toldCount(300);
    }

    private static void atItsEnd() {
        String sentence = "a run that is at its end stays there: ";
        stays(sentence + "DONE", MapMachine.DONE, 1, 11, 7, 20, 5, 0);
        stays(sentence + "DONE by 9", MapMachine.DONE, 1, 11, 7, 20, 5, 9, 20, 1, 7, 20, 6, 0);
        stays(sentence + "DIV_ZERO", MapMachine.DIV_ZERO, 1, 11, 7, 20, 5, 7, 25, 20, 1, 20, 0, 7, 20, 6, 0);
        stays(sentence + "STACK_FULL", MapMachine.STACK_FULL, 1, 10, 0, 0, 8, 0, 7, 20, 6, 0, 11, 7, 20, 5, 8, 0, 7, 20, 6, 0);
        stays(sentence + "OUT_FULL", MapMachine.OUT_FULL, 300, 11, 5, 20, 1, 7, 20, 5, 0, 0);
        stays(sentence + "OUT_OF_HEAP", MapMachine.OUT_OF_HEAP, 1, 11, 7, 20, 5, 2, 0, 42, 42, 41, 20, 1, 20, 1, 20, 2, 20, 2, 7, 20, 6, 0);
    }

    private static void stays(String sentence, int end, int told, int... program) {
        Careful x = new Careful();
        Check.due(sentence, x.init(0, 1), 0);
        x.load(program);
        x.start(0);
        Check.due(sentence, x.run(5000), end);
        int steps = x.count(2);
        int next = x.count(6);
        int live = x.count(3);
        int calls = x.count(5);
        for (int n : row(1, 2, 5000)) {
            Check.due(sentence + ", run(" + n + ")", x.run(n), end);
            Check.due(sentence + ", count(2)", x.count(2), steps);
            Check.due(sentence + ", count(3)", x.count(3), live);
            Check.due(sentence + ", count(5)", x.count(5), calls);
            Check.due(sentence + ", count(6)", x.count(6), next);
            Check.due(sentence + ", count(7)", x.count(7), end);
            Check.due(sentence + ", outSize()", x.outSize(), told);
        }
        Check.due(sentence + ", till the next start()", x.start(0), 0);
        Check.due(sentence + ", count(7) then", x.count(7), MapMachine.OUT_OF_FUEL);
        Check.due(sentence + ", run(1) then", x.run(1), MapMachine.OUT_OF_FUEL);
    }
}
