import java.lang.management.ManagementFactory;
import java.lang.reflect.Constructor;
import java.lang.reflect.Field;
import java.lang.reflect.Member;
import java.lang.reflect.Method;
import java.lang.reflect.Modifier;
import java.nio.file.Files;
import java.nio.file.Path;
import java.util.Arrays;
import java.util.Map;
import java.util.Set;
import java.util.TreeMap;
import java.util.TreeSet;
import java.util.regex.Pattern;

/** The public face, and those rules of LANGUAGE.md that can be seen from outside or in the text. */
public final class FaceTest {
    private static final Map<String, Integer> CONSTANTS = constants();
    private static final Set<String> METHODS = Set.of(
        "init(int,int)", "feed(int)", "compile()", "place()", "code(int)", "start(int)", "run(int)",
        "interpret(int,int)", "outSize()", "out(int)", "variable(int)", "map(int,int,int)", "count(int)");

    public static void main(String[] args) throws Exception {
        members();
        constantValues();
        nestedClasses();
        text();
        objectsMade();
        Check.finish();
    }

    private static Map<String, Integer> constants() {
        Map<String, Integer> all = new TreeMap<>();
        String[] names = {"NONE", "BAD", "FULL", "WRONG", "NUMBER", "TWICE", "UNKNOWN", "DEEP", "CODE_FULL",
            "DONE", "OUT_OF_FUEL", "DIV_ZERO", "STACK_FULL", "OUT_FULL", "OUT_OF_HEAP", "NOT_READY"};
        int[] values = {-1, -2, -3, -11, -12, -13, -14, -15, -16, 0, 1, 2, 3, 4, 5, 6};
        for (int i = 0; i < names.length; i++) {
            all.put(names[i], values[i]);
        }
        return all;
    }

    private static boolean isOpen(Member member) {
        return !Modifier.isPrivate(member.getModifiers()) && !member.isSynthetic();
    }

    private static void members() {
        Check.holds("public and final", Modifier.isPublic(MapMachine.class.getModifiers())
            && Modifier.isFinal(MapMachine.class.getModifiers()));
        Set<String> found = new TreeSet<>();
        for (Method method : MapMachine.class.getDeclaredMethods()) {
            if (isOpen(method)) {
                Check.holds(method + " is public and answers an int",
                    Modifier.isPublic(method.getModifiers()) && method.getReturnType() == int.class);
                StringBuilder name = new StringBuilder(method.getName()).append('(');
                for (Class<?> type : method.getParameterTypes()) {
                    name.append(name.charAt(name.length() - 1) == '(' ? "" : ",").append(type.getName());
                }
                found.add(name.append(')').toString());
            } else {
                Check.holds(method + " has no name of the face", isOwnName(method.getName()));
            }
        }
        Check.holds("the methods are " + found, found.equals(METHODS));
        Constructor<?>[] makers = MapMachine.class.getDeclaredConstructors();
        Check.holds("one constructor, public, without parameters", makers.length == 1
            && Modifier.isPublic(makers[0].getModifiers()) && makers[0].getParameterCount() == 0);
    }

    private static boolean isOwnName(String name) {
        return METHODS.stream().noneMatch(method -> method.startsWith(name + "("));
    }

    private static void constantValues() throws IllegalAccessException {
        Map<String, Integer> found = new TreeMap<>();
        for (Field field : MapMachine.class.getDeclaredFields()) {
            if (isOpen(field)) {
                Check.holds(field + " is a constant", Modifier.isStatic(field.getModifiers())
                    && Modifier.isFinal(field.getModifiers()) && Modifier.isPublic(field.getModifiers()));
                found.put(field.getName(), field.getInt(null));
            }
        }
        Check.holds("the constants are " + found, found.equals(CONSTANTS));
    }

    private static void nestedClasses() {
        Class<?>[] nested = MapMachine.class.getDeclaredClasses();
        Check.holds("at most twelve classes", nested.length < 12);
        for (Class<?> one : nested) {
            Check.holds(one + " is static and private", Modifier.isStatic(one.getModifiers())
                && Modifier.isPrivate(one.getModifiers()));
            long fields = Arrays.stream(one.getDeclaredFields())
                .filter(field -> !Modifier.isStatic(field.getModifiers())).count();
            Check.holds(one + " has some twenty fields at most", fields <= 20);
            for (Field field : one.getDeclaredFields()) {
                Check.holds(field + " is final if it is static",
                    !Modifier.isStatic(field.getModifiers()) || Modifier.isFinal(field.getModifiers()));
            }
            for (Method method : one.getDeclaredMethods()) {
                Check.holds(method + " has no name of the face", isOwnName(method.getName()));
                Check.holds(method + " has seven parameters at most", method.getParameterCount() <= 7);
            }
        }
    }

    private static void text() throws java.io.IOException {
        String source = Files.readString(Path.of("src/main/java/MapMachine.java"));
        String bare = source.replaceAll("(?s)/\\*.*?\\*/", "").replaceAll("//.*", "");
        String[] words = {"package", "finally", "synchronized", "assert", "hashCode", "Throwable", "Exception",
            "ArrayIndexOutOfBoundsException", "NullPointerException", "ClassCastException", "static\\s*\\{", "->", "::"};
        for (String word : words) {
            String pattern = Character.isLetter(word.charAt(0)) ? "\\b" + word + (word.endsWith("{") ? "" : "\\b") : word;
            Check.holds("no " + word + " in the program", !Pattern.compile(pattern).matcher(bare).find());
        }
        Check.holds("characters 0 to 127 alone", source.chars().allMatch(c -> c < 128));
    }

    /** All that a run of 512 calls makes is counted: the rows of the constructor, and nothing else. */
    private static void objectsMade() {
        dearestCalls(new MapMachine());
        com.sun.management.ThreadMXBean threads = (com.sun.management.ThreadMXBean) ManagementFactory.getThreadMXBean();
        long id = Thread.currentThread().getId();
        long before = threads.getThreadAllocatedBytes(id);
        MapMachine x = new MapMachine();
        long behindConstructor = threads.getThreadAllocatedBytes(id);
        dearestCalls(x);
        long behindAll = threads.getThreadAllocatedBytes(id);
        Check.holds("a new object has less than 100 KB", behindConstructor - before < 100000);
        Check.holds("its calls make next to nothing", behindAll - behindConstructor < 100000);
    }

    private static void dearestCalls(MapMachine x) {
        x.init(3, 400);
        int[] program = {11, 5, 20, 1, 1, 1, 22, 21, 1, 20, 1, 2, 0, 42, 40, 0, 26, 21, 1, 20, 60, 21, 1,
            2, 1, 44, 40, 0, 43, 40, 1, 20, 7, 0, 0};
        for (int token : program) {
            x.feed(token);
        }
        x.compile();
        for (int i = 0; i < 200; i++) {
            x.interpret(i, 5000);
        }
        x.start(0);
        for (int i = 0; i < 200; i++) {
            x.run(5000);
            x.count(3);
            x.map(0, 1, 50);
        }
        Check.due("it is still under way", x.count(7), MapMachine.OUT_OF_FUEL);
    }
}
