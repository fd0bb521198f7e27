import java.util.Random;

/** Promises 1 to 14 on programs made by chance: all answers are held against the Model's. */
public final class ModelTest {
    private static final int PROGRAMS = 4000;

    public static void main(String[] args) {
        int programs = args.length > 0 ? Integer.parseInt(args[0]) : PROGRAMS;
        int first = args.length > 1 ? Integer.parseInt(args[1]) : 1;
        int[] ends = new int[8];
        int[] answers = new int[17];
        for (int i = first; i < first + programs && Check.wrong() == 0; i++) {
            oneProgram(i, new Random(i), ends, answers);
        }
        for (int i = first; i < first + programs / 10 && Check.wrong() == 0; i++) {
            wildCalls(i, new Random(i));
        }
        StringBuilder text = new StringBuilder("ends:");
        for (int end : ends) {
            text.append(' ').append(end);
        }
        text.append("; faults:");
        for (int fault = 11; fault <= 16; fault++) {
            text.append(' ').append(answers[fault]);
        }
        System.out.println(text);
        Check.finish();
    }

    private static void oneProgram(int number, Random random, int[] ends, int[] answers) {
        Both both = new Both("program " + number);
        both.askAll();
        both.init(random.nextInt(3) == 0 ? random.nextInt() : random.nextInt(3), room(random));
        both.feed(Programs.make(random, 60 + random.nextInt(500)));
        int words = both.compile();
        if (words < 0) {
            answers[-words]++;
        }
        both.askCode();
        both.askCounts();
        for (int i = 0; i < 3; i++) {
            if (random.nextBoolean()) {
                byRun(both, random, ends);
            } else {
                ends[both.interpret(random.nextInt(7), steps(random))]++;
                both.askAll();
                both.run(steps(random));
            }
        }
        leaveByChance(both, random);
        both.askAll();
        both.askCode();
    }

    /** 512 calls in any order with any arguments, about a program that may or may not be there. */
    private static void wildCalls(int number, Random random) {
        Both both = new Both("wild calls " + number);
        int[] program = Programs.make(random, 60 + random.nextInt(200));
        int fed = 0;
        for (int i = 0; i < 512; i++) {
            if (fed < program.length && random.nextInt(40) != 0) {
                both.feed(program[fed]);
                fed++;
                continue;
            }
            switch (random.nextInt(12)) {
                case 0: case 1: both.compile(); break;
                case 2: both.start(wild(random)); break;
                case 3: case 4: both.run(wild(random)); break;
                case 5: both.interpret(wild(random), wild(random)); break;
                case 6: both.askOne(1, wild(random), wild(random), wild(random)); break;
                case 7: both.askOne(2, wild(random), wild(random), wild(random)); break;
                case 8: both.askCounts(); break;
                case 9: both.askOne(3, wild(random), 0, 0); break;
                case 10: both.askOne(4, wild(random), 0, 0); break;
                default: wildChange(both, random); break;
            }
        }
        both.askAll();
        both.askCode();
    }

    private static void wildChange(Both both, Random random) {
        if (random.nextInt(6) == 0) {
            both.feed(wild(random));
        } else if (random.nextInt(8) == 0) {
            both.init(wild(random), wild(random));
        }
    }

    private static int wild(Random random) {
        int[] edges = {0, 1, -1, 2, 3, 4, 7, 8, 300, 400, 401, 5000, 5001, 2147483647, -2147483648};
        return random.nextBoolean() ? edges[random.nextInt(edges.length)] : random.nextInt(400);
    }

    private static int room(Random random) {
        switch (random.nextInt(4)) {
            case 0: return 1 + random.nextInt(12);
            case 1: return 1 + random.nextInt(400);
            default: return 300;
        }
    }

    private static int steps(Random random) {
        switch (random.nextInt(4)) {
            case 0: return 1 + random.nextInt(30);
            case 1: return 1 + random.nextInt(5000);
            default: return 5000;
        }
    }

    private static void byRun(Both both, Random random, int[] ends) {
        both.start(random.nextInt(9) - 2);
        both.askCounts();
        int end = both.run(1 + random.nextInt(20));
        for (int i = 0; i < 4 && end == MapMachine.OUT_OF_FUEL; i++) {
            both.askCounts();
            end = both.run(steps(random));
        }
        ends[end]++;
        both.askAll();
        both.run(3);
        both.askCounts();
    }

    private static void leaveByChance(Both both, Random random) {
        switch (random.nextInt(4)) {
            case 0: both.feed(random.nextInt(50)); break;
            case 1: both.compile(); break;
            case 2: both.init(random.nextInt(), random.nextInt(600) - 100); break;
            default: break;
        }
    }
}
