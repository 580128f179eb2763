import java.io.File;
import java.io.IOException;
import java.lang.reflect.InvocationTargetException;
import java.lang.reflect.Method;
import java.nio.file.Files;
import java.nio.file.Path;
import java.util.regex.Matcher;
import java.util.regex.Pattern;

/** Makes the calls that README.md shows, one behind the other, and compares their answers with those it shows. */
public final class ReadmeTest {
    private static final Pattern MAKING = Pattern.compile("RankDesk desk = new RankDesk\\(\\);");
    private static final Pattern CALL = Pattern.compile("desk\\.(\\w+)\\(([^()]*)\\);(?: +// (.+))?");
    private static final Pattern ANSWER = Pattern.compile("(throws \\w+|true|false|-?\\d+)(?:, .*|: \"(.*)\")?");

    private static RankDesk desk;
    private static int calls;

    private ReadmeTest() {
    }

    private static int[] numbers(String arguments) {
        String[] words = arguments.isBlank() ? new String[0] : arguments.split(", ");
        int[] numbers = new int[words.length];
        for (int i = 0; i < words.length; i++) {
            numbers[i] = (int) (long) Long.decode(words[i]);
        }
        return numbers;
    }

    private static Method methodOf(String name) {
        for (Method method : RankDesk.class.getMethods()) {
            if (method.getName().equals(name)) {
                return method;
            }
        }
        throw new IllegalStateException("README.md calls what is not there: " + name);
    }

    /** The answer as README.md would show it; null if the method has none. */
    private static String answer(String name, int[] numbers) throws IllegalAccessException {
        Object[] arguments = new Object[numbers.length];
        for (int i = 0; i < numbers.length; i++) {
            arguments[i] = numbers[i];
        }
        try {
            Object answer = methodOf(name).invoke(desk, arguments);
            return answer == null ? null : answer.toString();
        } catch (InvocationTargetException e) {
            return "throws " + e.getCause().getClass().getSimpleName();
        }
    }

    private static String appended(int[] words) {
        StringBuilder text = new StringBuilder();
        for (int word : words) {
            for (int shift = 24; shift >= 0; shift -= 8) {
                text.append((char) (word >>> shift & 255));
            }
        }
        return text.toString();
    }

    /** A text behind the answer is what was appended, or what was written. */
    private static void checkText(String line, String name, int[] numbers, String shown) {
        String due = shown.replace("\\n", "\n");
        if (name.equals("append")) {
            // What follows has to be nothing: spaces, or zeros that are cut off.
            Check.same(line, appended(numbers).replaceAll("[ \0]+$", ""), due.replaceAll(" +$", ""));
        } else {
            Check.isTrue(line, name.startsWith("write"));
            Check.same(line, output(), due);
        }
    }

    private static String output() {
        StringBuilder text = new StringBuilder();
        for (int i = 0; !Check.told(at(i)).startsWith("throws"); i++) {
            text.append((char) desk.outputByte(i));
        }
        return text.toString();
    }

    private static Check.Call at(int index) {
        return () -> desk.outputByte(index);
    }

    private static void check(String line) throws IllegalAccessException {
        Matcher call = CALL.matcher(line);
        if (MAKING.matcher(line).matches()) {
            desk = new RankDesk();
            calls = 0;
        } else if (!call.matches()) {
            Check.same("what README.md shows", line, "a call of desk");
        } else {
            int[] numbers = numbers(call.group(2));
            String got = answer(call.group(1), numbers);
            calls++;
            Matcher shown = ANSWER.matcher(call.group(3) == null ? "" : call.group(3));
            if (shown.matches()) {
                Check.same(line, got, shown.group(1));
                if (shown.group(2) != null) {
                    checkText(line, call.group(1), numbers, shown.group(2));
                }
            } else {
                Check.same(line + " shows no answer", got, null);
            }
        }
    }

    private static void checkCalls(String page) throws IllegalAccessException {
        int shown = 0;
        for (String block : page.split("(?m)^```java\n")) {
            if (block.contains("\n```\n") && !block.startsWith("#")) {
                for (String line : block.substring(0, block.indexOf("\n```\n")).split("\n")) {
                    check(line);
                    shown++;
                }
            }
        }
        Check.isTrue("README.md shows calls: " + shown, shown > 50);
        Check.isTrue("an object is used for at most 512 calls", calls <= 512);
        Check.isTrue("README.md says so", page.contains("at most 512 calls after it has been made"));
    }

    /** Each exception that the face names has to be told, and a call that throws it. */
    private static void checkExceptions(String page) {
        for (Method method : RankDesk.class.getMethods()) {
            for (Class<?> type : method.getExceptionTypes()) {
                if (method.getDeclaringClass() == RankDesk.class) {
                    Check.isTrue("README.md tells of " + type, page.contains("- `" + type.getSimpleName() + "`: "));
                    Check.isTrue("README.md shows " + type, page.contains("// throws " + type.getSimpleName() + "\n"));
                }
            }
        }
    }

    private static void checkTests(String page) {
        String[] files = new File("src/test/java").list();
        int tests = 0;
        for (String file : files == null ? new String[0] : files) {
            if (file.endsWith("Test.java")) {
                tests++;
                Check.isTrue("README.md tells of " + file, page.contains("| " + file.replace(".java", "") + " | "));
            }
        }
        Check.same("README.md tells of no other test", page.split("(?m)^\\| \\w+Test \\| ").length - 1, tests);
        Check.isTrue("README.md says how to run the tests", page.contains("    bash .ci/run\n"));
        Check.isTrue("that is there", new File(".ci/run").canExecute());
    }

    public static void main(String[] args) throws IOException, IllegalAccessException {
        String page = Files.readString(Path.of("README.md"));
        checkCalls(page);
        checkExceptions(page);
        checkTests(page);
        Check.end();
    }
}
