import java.nio.file.Files;
import java.nio.file.Path;
import java.util.ArrayList;
import java.util.List;
import java.util.regex.Matcher;
import java.util.regex.Pattern;

/** The example of README.md: its program, taken from its text, gives the answers that stand beside it. */
public final class ReadmeTest {
    public static void main(String[] args) throws java.io.IOException {
        String example = example(Files.readString(Path.of("README.md")));
        MapMachine x = new MapMachine();
        for (int token : program(example)) {
            x.feed(token);
        }
        Check.holds("it compiles", x.compile() > 0);
        Check.due("place()", x.place(), MapMachine.NONE);
        Check.due("start(5)", x.start(5), 0);
        Check.due("run(1000)", x.run(1000), MapMachine.DONE);
        answers(example, x);
        Check.due("interpret(5, 5000)", x.interpret(5, 5000), MapMachine.DONE);
        answers(example, x);
        Check.finish();
    }

    private static String example(String text) {
        Matcher block = Pattern.compile("(?s)```java\n(.*?)```").matcher(text);
        Check.holds("README.md has an example", block.find());
        return block.group(1);
    }

    private static List<Integer> program(String example) {
        Matcher braces = Pattern.compile("(?s)program = \\{(.*?)\\};").matcher(example);
        Check.holds("the example has a program", braces.find());
        Matcher number = Pattern.compile("-?\\d+").matcher(braces.group(1).replaceAll("//.*", ""));
        List<Integer> tokens = new ArrayList<>();
        while (number.find()) {
            tokens.add(Integer.parseInt(number.group()));
        }
        return tokens;
    }

    /** Lines such as 'x.out(0);  // 1: ..' tell what is due. */
    private static void answers(String example, MapMachine x) {
        Check.due("out(0)", x.out(0), told(example, "x.out(0);"));
        Check.due("map(0, 1, 0)", x.map(0, 1, 0), told(example, "x.map(0, 1, 0);"));
    }

    private static int told(String example, String call) {
        Matcher line = Pattern.compile(Pattern.quote(call) + " *// (-?\\d+):").matcher(example);
        Check.holds("the example tells the answer of " + call, line.find());
        return Integer.parseInt(line.group(1));
    }
}
