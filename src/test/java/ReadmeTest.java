import java.io.IOException;
import java.lang.reflect.InvocationTargetException;
import java.lang.reflect.Method;
import java.nio.file.Files;
import java.nio.file.Path;
import java.util.HashMap;
import java.util.List;
import java.util.Map;
import java.util.regex.Matcher;
import java.util.regex.Pattern;

/** What README.md says of the class: the answers of its example, and a row with its exceptions for each call. */
public final class ReadmeTest {
    private static final Pattern LINE = Pattern.compile(
        "(?:int (\\w+) = )?desk\\.(\\w+)\\(([^)]*)\\); +// (throws \\w+|[-\\w]+)(:.*)?");
    private static final Pattern ROW = Pattern.compile("\\| `(\\w+)\\(([^)]*)\\)` \\|[^|]*\\|([^|]*)\\|");

    private static final DividendDesk desk = new DividendDesk();
    private static final Map<String, Integer> named = new HashMap<>();

    public static void main(String[] args) throws IOException, ReflectiveOperationException {
        List<String> lines = Files.readAllLines(Path.of("README.md"));
        example(lines);
        rows(lines);
        Check.end("ReadmeTest");
    }

    private static void example(List<String> lines) throws ReflectiveOperationException {
        int start = lines.indexOf("```java");
        Check.isTrue("README has an example", start >= 0);
        Check.equal("the example makes a desk", lines.indexOf("DividendDesk desk = new DividendDesk();"), start + 1);
        for (int i = start + 2; !lines.get(i).equals("```"); i++) {
            Matcher line = LINE.matcher(lines.get(i));
            boolean isCall = line.matches();
            Check.isTrue("a call with its answer: " + lines.get(i), isCall);
            if (isCall) {
                String got = answer(line.group(2), line.group(3));
                Check.isTrue(lines.get(i) + ": " + got, got.equals(line.group(4)));
                if (line.group(1) != null) {
                    named.put(line.group(1), Integer.parseInt(got));
                }
            }
        }
    }

    private static String answer(String name, String words) throws ReflectiveOperationException {
        String[] arguments = words.isEmpty() ? new String[0] : words.split(", ");
        Object[] numbers = new Object[arguments.length];
        for (int i = 0; i < numbers.length; i++) {
            numbers[i] = number(arguments[i]);
        }
        try {
            return String.valueOf(method(name).invoke(desk, numbers));
        } catch (InvocationTargetException e) {
            return "throws " + e.getCause().getClass().getSimpleName();
        }
    }

    private static int number(String word) throws ReflectiveOperationException {
        if (word.startsWith("DividendDesk.")) {
            return DividendDesk.class.getField(word.substring("DividendDesk.".length())).getInt(null);
        }
        return named.containsKey(word) ? named.get(word) : Integer.parseInt(word);
    }

    private static Method method(String name) {
        for (Method method : DividendDesk.class.getMethods()) {
            if (method.getName().equals(name)) {
                return method;
            }
        }
        throw new IllegalStateException("no call " + name);
    }

    /** Each call of the face has one row, which names as many arguments, and its exceptions in the document's order. */
    private static void rows(List<String> lines) {
        Map<String, Integer> rowsOf = new HashMap<>();
        for (String line : lines) {
            Matcher row = ROW.matcher(line);
            if (row.matches()) {
                Method method = method(row.group(1));
                rowsOf.merge(row.group(1), 1, Integer::sum);
                int arguments = row.group(2).isEmpty() ? 0 : row.group(2).split(", ").length;
                Check.equal("arguments of " + line, arguments, method.getParameterCount());
                Check.isTrue("exceptions of " + line, exceptionsOf(row.group(3)).equals(exceptionsOf(method)));
            }
        }
        for (Method method : DividendDesk.class.getMethods()) {
            if (method.getDeclaringClass() == DividendDesk.class) {
                Check.equal("rows of " + method.getName(), rowsOf.getOrDefault(method.getName(), 0), 1);
            }
        }
    }

    private static String exceptionsOf(String cell) {
        StringBuilder names = new StringBuilder();
        Matcher name = Pattern.compile("Index|Argument|State").matcher(cell);
        while (name.find()) {
            names.append(name.group()).append(' ');
        }
        return names.toString();
    }

    private static String exceptionsOf(Method method) {
        StringBuilder names = new StringBuilder();
        for (Class<?> type : method.getExceptionTypes()) {
            names.append(exceptionsOf(type.getSimpleName()));
        }
        return names.toString();
    }
}
