import java.lang.reflect.Method;
import java.nio.file.Files;
import java.nio.file.Path;
import java.util.regex.Matcher;
import java.util.regex.Pattern;

/** The calls of README.md, in their order, answer what it says behind them. */
public final class ReadmeTest {
    private static final Pattern MADE = Pattern.compile("ChestnutSticks x = new ChestnutSticks\\(\\);");
    private static final Pattern TYPED = Pattern.compile("for \\(char c : \"(.*)\"\\.toCharArray\\(\\)\\) x\\.type\\(c\\);");
    private static final Pattern CALL = Pattern.compile("x\\.(\\w+)\\(([-0-9, ]*)\\); +// (-?\\d+): .*");

    public static void main(String[] args) throws Exception {
        ChestnutSticks x = null;
        boolean isCode = false;
        int calls = 0;
        for (String line : Files.readAllLines(Path.of("README.md"))) {
            if (line.startsWith("```")) {
                isCode = line.equals("```java");
            } else if (isCode) {
                Matcher typed = TYPED.matcher(line);
                Matcher call = CALL.matcher(line);
                if (MADE.matcher(line).matches()) {
                    x = new ChestnutSticks();
                } else if (x != null && typed.matches()) {
                    for (char c : typed.group(1).toCharArray()) x.type(c);
                } else if (x != null && call.matches()) {
                    Due.is(line, answer(x, call.group(1), call.group(2)), Long.parseLong(call.group(3)));
                    calls++;
                } else {
                    Due.that("README.md tells a call and its answer: " + line, false);
                }
            }
        }
        Due.that("README.md has calls", calls > 0);
        Due.end("ReadmeTest");
    }

    private static long answer(ChestnutSticks x, String name, String told) throws Exception {
        String[] numbers = told.isBlank() ? new String[0] : told.split(", ");
        Class<?>[] types = new Class<?>[numbers.length];
        Object[] values = new Object[numbers.length];
        for (int i = 0; i < numbers.length; i++) {
            types[i] = int.class;
            values[i] = Integer.parseInt(numbers[i]);
        }
        Method method = ChestnutSticks.class.getMethod(name, types);
        return ((Number) method.invoke(x, values)).longValue();
    }
}
