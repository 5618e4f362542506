import java.io.File;
import java.io.IOException;
import java.lang.reflect.Method;
import java.lang.reflect.Modifier;
import java.nio.file.Files;
import java.nio.file.Path;
import java.util.List;
import java.util.regex.Matcher;
import java.util.regex.Pattern;

/** What README.md says of the class: its example's answers, the calls of its table, and the tests that it names. */
public final class ReadmeTest {
    private static final String MADE = "IntFile x = new IntFile(4, 120, 20);";
    private static final Pattern CALL = Pattern.compile("x\\.(\\w+)\\((.*)\\); +// (-?\\d+|BAD|NO|FULL): .+");
    private static final Pattern ROW = Pattern.compile("\\| `(\\w+)\\((.*?)\\)` \\|.*");
    private static final Pattern TEST = Pattern.compile("\\w+Test\\b");

    public static void main(String[] args) throws IOException, ReflectiveOperationException {
        List<String> lines = Files.readAllLines(Path.of("README.md"));
        example(lines);
        calls(lines);
        tests(lines);
        Check.end();
    }

    private static void example(List<String> lines) throws ReflectiveOperationException {
        int at = lines.indexOf(MADE);
        Check.due("README.md makes its example's object", at < 0 ? 0 : 1, 1);
        IntFile x = new IntFile(4, 120, 20);
        int calls = 0;
        for (int i = at + 1; i < lines.size() && !lines.get(i).equals("```"); i++) {
            Matcher call = CALL.matcher(lines.get(i));
            boolean isCall = call.matches();
            Check.due("README.md: a call with its answer: " + lines.get(i), isCall ? 1 : 0, 1);
            if (isCall) {
                Check.due("README.md: " + lines.get(i), answer(x, call.group(1), call.group(2)), due(call.group(3)));
                calls++;
            }
        }
        Check.due("README.md: the example calls something", calls > 0 ? 1 : 0, 1);
    }

    private static int answer(IntFile x, String name, String arguments) throws ReflectiveOperationException {
        Method method = faceMethod(name);
        String[] texts = arguments.split(", ");
        Object[] values = new Object[texts.length];
        for (int i = 0; i < values.length; i++) {
            long value = Long.decode(texts[i].replace("L", ""));
            if (method.getParameterTypes()[i] == long.class) {
                values[i] = value;
            } else {
                values[i] = (int) value;
            }
        }
        return (int) method.invoke(x, values);
    }

    private static Method faceMethod(String name) throws NoSuchMethodException {
        for (Method method : IntFile.class.getDeclaredMethods()) {
            if (Modifier.isPublic(method.getModifiers()) && method.getName().equals(name)) {
                return method;
            }
        }
        throw new NoSuchMethodException(name);
    }

    private static int due(String answer) {
        return switch (answer) {
            case "BAD" -> IntFile.BAD;
            case "NO" -> IntFile.NO;
            case "FULL" -> IntFile.FULL;
            default -> Integer.parseInt(answer);
        };
    }

    private static void calls(List<String> lines) throws NoSuchMethodException {
        int rows = 0;
        for (String line : lines) {
            Matcher row = ROW.matcher(line);
            if (row.matches()) {
                int parameters = faceMethod(row.group(1)).getParameterCount();
                Check.due("README.md: parameters of " + row.group(1), row.group(2).split(", ").length, parameters);
                rows++;
            }
        }
        int methods = 0;
        for (Method method : IntFile.class.getDeclaredMethods()) {
            if (Modifier.isPublic(method.getModifiers())) {
                String begin = "| `" + method.getName() + "(";
                Check.due("README.md: rows of " + method.getName(), lines.stream().filter(line -> line.startsWith(begin)).count(), 1);
                methods++;
            }
        }
        Check.due("README.md: calls in its table", rows, methods);
    }

    private static void tests(List<String> lines) {
        String all = String.join("\n", lines);
        File directory = new File("src/test/java");
        String[] names = directory.list((where, name) -> name.endsWith("Test.java"));
        for (String name : names == null ? new String[0] : names) {
            String test = name.substring(0, name.length() - ".java".length());
            Check.due("README.md names " + test, Pattern.compile("\\b" + test + "\\b").matcher(all).find() ? 1 : 0, 1);
        }
        Matcher named = TEST.matcher(all);
        while (named.find()) {
            Check.due("the test that README.md names: " + named.group(), new File(directory, named.group() + ".java").isFile() ? 1 : 0, 1);
        }
    }
}
