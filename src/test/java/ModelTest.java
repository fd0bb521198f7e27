import java.util.Random;

/** Promises 1 to 14 on programs made by chance: all answers are held against the Model's. */
public final class ModelTest {
    private static final int PROGRAMS = 4000;

    public static void main(String[] args) {
        int programs = args.length > 0 ? Integer.parseInt(args[0]) : PROGRAMS;
        int first = args.length > 1 ? Integer.parseInt(args[1]) : 1;
        int[] ends = new int[8];
        int[] answers = new int[17];
        for (int i = first; i < first + programs && Check.wrong() == 0; i++) {
            oneProgram(i, new Random(i), ends, answers);
        }
        StringBuilder text = new StringBuilder("ends:");
        for (int end : ends) {
            text.append(' ').append(end);
        }
        text.append("; faults:");
        for (int fault = 11; fault <= 16; fault++) {
            text.append(' ').append(answers[fault]);
        }
        System.out.println(text);
        Check.finish();
    }

    private static void oneProgram(int number, Random random, int[] ends, int[] answers) {
        Both both = new Both("program " + number);
        both.askAll();
        both.init(random.nextInt(3) == 0 ? random.nextInt() : random.nextInt(3), room(random));
        both.feed(Programs.make(random, 60 + random.nextInt(500)));
        int words = both.compile();
        if (words < 0) {
            answers[-words]++;
        }
        both.askCode();
        both.askCounts();
        for (int i = 0; i < 3; i++) {
            if (random.nextBoolean()) {
                byRun(both, random, ends);
            } else {
                ends[both.interpret(random.nextInt(7), steps(random))]++;
                both.askAll();
                both.run(steps(random));
            }
        }
        leaveByChance(both, random);
        both.askAll();
        both.askCode();
    }

    private static int room(Random random) {
        switch (random.nextInt(4)) {
            case 0: return 1 + random.nextInt(12);
            case 1: return 1 + random.nextInt(400);
            default: return 300;
        }
    }

    private static int steps(Random random) {
        switch (random.nextInt(4)) {
            case 0: return 1 + random.nextInt(30);
            case 1: return 1 + random.nextInt(5000);
            default: return 5000;
        }
    }

    private static void byRun(Both both, Random random, int[] ends) {
        both.start(random.nextInt(9) - 2);
        both.askCounts();
        int end = both.run(1 + random.nextInt(20));
        for (int i = 0; i < 4 && end == MapMachine.OUT_OF_FUEL; i++) {
            both.askCounts();
            end = both.run(steps(random));
        }
        ends[end]++;
        both.askAll();
        both.run(3);
        both.askCounts();
    }

    private static void leaveByChance(Both both, Random random) {
        switch (random.nextInt(4)) {
            case 0: both.feed(random.nextInt(50)); break;
            case 1: both.compile(); break;
            case 2: both.init(random.nextInt(), random.nextInt(600) - 100); break;
            default: break;
        }
    }
}
