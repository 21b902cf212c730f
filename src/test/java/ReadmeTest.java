import java.io.IOException;
import java.lang.reflect.InvocationTargetException;
import java.lang.reflect.Method;
import java.nio.file.Files;
import java.nio.file.Path;
import java.util.Arrays;
import java.util.TreeSet;
import java.util.regex.Matcher;
import java.util.regex.Pattern;

/** The README's example is run line by line, so that no answer in it is wrong; and the README has every call. */
public final class ReadmeTest {
    private static final String FIRST_LINE = "MemoryBank bank = new MemoryBank();";
    /** A call with written numbers, and behind it the answer, up to a colon if more is said. */
    private static final Pattern CALL = Pattern.compile("bank\\.(\\w+)\\(([-0-9, ]*)\\); +// ([-\\w]+)(: .*)?");
    private static final String[] FACE = {
        "int put(int b)", "boolean cut(int n)", "int size()", "int rowAt(int k)",
        "boolean load(int k, int n, int place)", "boolean dump(int place, int n)", "int check(int place, int n)",
        "int rowCheck(int n)", "boolean seal()", "int at(int k)"
    };

    private static final Due due = new Due();

    public static void main(String[] args) throws IOException, ReflectiveOperationException {
        String readme = Files.readString(Path.of("README.md"));
        TreeSet<String> names = new TreeSet<>();
        for (String call : FACE) {
            due.is("README.md has " + call, readme.contains("`" + call + "`"), true);
            names.add(call.substring(call.indexOf(' ') + 1, call.indexOf('(')));
        }
        due.is("the calls of the example", runExample(example(readme)), names);
        due.end();
    }

    private static String[] example(String readme) {
        String begin = "```java\n";
        int from = readme.indexOf(begin) + begin.length();
        return readme.substring(from, readme.indexOf("```", from)).split("\n");
    }

    private static TreeSet<String> runExample(String[] lines) throws ReflectiveOperationException {
        TreeSet<String> called = new TreeSet<>();
        Bank bank = new Bank();
        due.is("the example's first line", lines[0], FIRST_LINE);
        for (String line : Arrays.copyOfRange(lines, 1, lines.length)) {
            Matcher call = CALL.matcher(line);
            boolean readable = call.matches();
            due.is("a call and its answer: " + line, readable, true);
            if (readable) {
                due.is(line, answer(bank, call.group(1), call.group(2)), written(call.group(3)));
                called.add(call.group(1));
            }
        }
        return called;
    }

    private static Object answer(Bank bank, String name, String numbers) throws ReflectiveOperationException {
        String[] texts = numbers.isEmpty() ? new String[0] : numbers.split(", ");
        Object[] given = Arrays.stream(texts).map(Integer::valueOf).toArray();
        Class<?>[] types = new Class<?>[given.length];
        Arrays.fill(types, int.class);
        Method method = Bank.class.getDeclaredMethod(name, types);
        try {
            return method.invoke(bank, given);
        } catch (InvocationTargetException thrown) {
            return thrown.getCause();
        }
    }

    private static Object written(String answer) {
        switch (answer) {
            case "true": return true;
            case "false": return false;
            case "NONE": return MemoryBank.NONE;
            default: return Integer.valueOf(answer);
        }
    }
}
