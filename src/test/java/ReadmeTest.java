import java.io.IOException;
import java.lang.reflect.Method;
import java.nio.charset.StandardCharsets;
import java.nio.file.Files;
import java.nio.file.Path;
import java.util.HashSet;
import java.util.Set;
import java.util.regex.Matcher;
import java.util.regex.Pattern;

/** The example of README.md, line by line, and that README.md names each method. */
public final class ReadmeTest {
    private static final Pattern CALL = Pattern.compile("x\\.(\\w+)\\(([-0-9, ]*)\\); +// (-?\\d+|true|false)\\b.*");
    private static final Pattern QUOTED = Pattern.compile("\"([^\"]*)\"");

    private ReadmeTest() {
    }

    public static void main(String[] args) throws ReflectiveOperationException, IOException {
        String readme = Files.readString(Path.of("README.md"), StandardCharsets.UTF_8);
        example(readme);
        Set<String> names = new HashSet<>();
        for (Method m : LendTown.class.getMethods()) {
            if (m.getDeclaringClass() == LendTown.class && names.add(m.getName())) {
                boolean named = readme.contains("`" + m.getName() + "`") || readme.contains("`" + m.getName() + "(");
                Due.yes("README.md names " + m.getName(), named);
            }
        }
        Due.end();
    }

    private static void example(String readme) throws ReflectiveOperationException {
        int start = readme.indexOf("LendTown x = new LendTown();");
        String[] statements = readme.substring(start, readme.indexOf("```", start)).split("\n(?! )");
        LendTown x = new LendTown();
        Due.is("statements in the example", 36, statements.length);
        for (int i = 1; i < statements.length; i++) {
            if (statements[i].startsWith("tell(x, ")) {
                tell(x, textOf(statements[i]));
            } else {
                call(x, statements[i]);
            }
        }
    }

    private static String textOf(String statement) {
        StringBuilder text = new StringBuilder();
        Matcher m = QUOTED.matcher(statement);
        while (m.find()) {
            text.append(m.group(1).translateEscapes());
        }
        return text.toString();
    }

    /** As README.md has it. */
    private static void tell(LendTown x, String text) {
        int[] four = new int[(text.length() + 19) / 20 * 5];
        for (int i = 0; i < text.length(); i++) {
            four[i / 4] |= text.charAt(i) << 24 - i % 4 * 8;
        }
        for (int i = 0; i < four.length; i += 5) {
            x.feed(four[i], four[i + 1], four[i + 2], four[i + 3], four[i + 4]);
        }
        x.end(text.length());
    }

    private static void call(LendTown x, String line) throws ReflectiveOperationException {
        Matcher m = CALL.matcher(line);
        if (!m.matches()) {
            Due.yes("a call and its answer: " + line, false);
            return;
        }
        String[] words = m.group(2).isEmpty() ? new String[0] : m.group(2).split(", ");
        Class<?>[] types = new Class<?>[words.length];
        Object[] numbers = new Object[words.length];
        for (int i = 0; i < words.length; i++) {
            types[i] = int.class;
            numbers[i] = Integer.valueOf(words[i]);
        }
        String got = String.valueOf(LendTown.class.getMethod(m.group(1), types).invoke(x, numbers));
        Due.yes(line + " answered " + got, got.equals(m.group(3)));
    }
}
