import java.io.IOException;
import java.lang.reflect.InvocationTargetException;
import java.lang.reflect.Method;
import java.lang.reflect.Modifier;
import java.nio.ByteBuffer;
import java.nio.charset.StandardCharsets;
import java.nio.file.Files;
import java.nio.file.Path;
import java.util.Arrays;
import java.util.List;
import java.util.regex.Matcher;
import java.util.regex.Pattern;

/** README.md: its example is run line by line, its way to load a text is used, and every call is named. */
public final class ReadmeTest {
    private static final Path FILE = Path.of("README.md");
    private static final Pattern CALL = Pattern.compile("walk\\.(\\w+)\\(([^)]*)\\); *// ([^: ]+).*");
    private static final Pattern STATEMENT = Pattern.compile("\\| `([a-z]+ [^`]*;)` \\|.*");

    public static void main(String[] args) throws IOException, ReflectiveOperationException {
        List<String> lines = Files.readAllLines(FILE);
        example(lines);
        statements(lines);
        loading(String.join("\n", lines));
        everyCall(String.join("\n", lines));
        Check.end();
    }

    private static void example(List<String> lines) throws ReflectiveOperationException {
        CensusWalk walk = new CensusWalk();
        int calls = 0;
        for (String line : lines) {
            Matcher call = CALL.matcher(line);
            if (call.matches()) {
                calls++;
                Check.same(line, answer(walk, call.group(1), call.group(2)), number(call.group(3)));
            }
        }
        Check.same("the example has calls", calls > 10, true);
    }

    private static int answer(CensusWalk walk, String name, String arguments) throws ReflectiveOperationException {
        Object[] values = Arrays.stream(arguments.split(",")).map(String::trim).filter(text -> !text.isEmpty())
                .map(Integer::decode).toArray();
        Class<?>[] types = new Class<?>[values.length];
        Arrays.fill(types, int.class);
        try {
            return (Integer) CensusWalk.class.getMethod(name, types).invoke(walk, values);
        } catch (InvocationTargetException e) {
            Check.same(name + " threw " + e.getCause(), false, true);
            return Integer.MIN_VALUE;
        }
    }

    private static int number(String due) throws ReflectiveOperationException {
        String constant = "CensusWalk.";
        return due.startsWith(constant) ? CensusWalk.class.getField(due.substring(constant.length())).getInt(null)
                : Integer.parseInt(due);
    }

    /** The table's statements, one after the other, are a setup text. */
    private static void statements(List<String> lines) {
        StringBuilder text = new StringBuilder();
        for (String line : lines) {
            Matcher statement = STATEMENT.matcher(line);
            if (statement.matches()) {
                text.append(statement.group(1));
            }
        }
        CensusWalk walk = new CensusWalk();
        Check.same(text + " loads", load(walk, text.toString()), 1);
        Check.same("errorOffset()", walk.errorOffset(), -1);
        Check.same("crossingCount()", walk.crossingCount(), 4);
        Check.same("streetCount()", walk.streetCount(), 1);
        Check.same("walkerCount()", walk.walkerCount(), 1);
        Check.same("hasDog(0)", walk.hasDog(0), true);
        Check.same("duration(0, 1)", walk.duration(0, 1), 11);
    }

    /** README has these very lines. */
    static int load(CensusWalk walk, String text) {
        byte[] bytes = Arrays.copyOf(text.getBytes(StandardCharsets.ISO_8859_1), (text.length() + 19) / 20 * 20);
        ByteBuffer words = ByteBuffer.wrap(bytes);
        while (words.hasRemaining()) {
            walk.append(words.getInt(), words.getInt(), words.getInt(), words.getInt(), words.getInt());
        }
        return walk.load(text.length());
    }

    private static void loading(String readme) throws IOException {
        String own = Files.readString(Path.of("src", "test", "java", "ReadmeTest.java"));
        int from = own.indexOf("    static int load(");
        String method = own.substring(from, own.indexOf("\n    }\n", from) + 7).replaceAll("(?m)^    ", "");
        Check.same("README tells how to load a text", readme.contains("```java\n" + method + "```"), true);
        String town = "town 2;street 0 1 10;";
        for (int spaces = 0; spaces < 40; spaces++) {
            CensusWalk walk = new CensusWalk();
            Check.same("a text of any length", load(walk, town + " ".repeat(spaces)), 0);
            Check.same("is read whole", walk.streetCount(), 1);
        }
    }

    private static void everyCall(String readme) {
        for (Method method : CensusWalk.class.getDeclaredMethods()) {
            if (Modifier.isPublic(method.getModifiers())) {
                Check.same("README names " + method.getName(), readme.contains("`" + method.getName() + "`"), true);
            }
        }
    }
}
