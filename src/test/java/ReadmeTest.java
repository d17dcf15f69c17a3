import java.io.IOException;
import java.lang.reflect.Method;
import java.nio.charset.StandardCharsets;
import java.nio.file.Files;
import java.nio.file.Path;
import java.util.Arrays;
import java.util.regex.Matcher;
import java.util.regex.Pattern;

/** The calls of README.md answer what is written behind them. */
final class ReadmeTest {
    private static final Pattern TEXT = Pattern.compile("(?m)^String text = \"([^\"]*)\";$");
    private static final Pattern CALL = Pattern.compile("(?m)^x\\.(\\w+)\\(([^)]*)\\); +// (-?\\d+):");
    private static final Check check = new Check();

    public static void main(String[] args) throws IOException, ReflectiveOperationException {
        String readme = Files.readString(Path.of("README.md"), StandardCharsets.ISO_8859_1);
        Matcher text = TEXT.matcher(readme);
        check.holds("README.md tells a text", text.find());
        TwoKerbs x = new TwoKerbs();
        Check.type(x, text.group(1));
        int calls = 0;
        Matcher call = CALL.matcher(readme);
        while (call.find()) {
            calls++;
            check.due(call.group(), answer(x, call.group(1), call.group(2)), Long.parseLong(call.group(3)));
        }
        check.due("calls in README.md", calls, Pattern.compile("(?m)^x\\.").matcher(readme).results().count());
        check.holds("there are calls", calls > 0);
        check.end();
    }

    private static long answer(TwoKerbs x, String name, String written) throws ReflectiveOperationException {
        String[] numbers = written.isEmpty() ? new String[0] : written.split(", ");
        Class<?>[] types = new Class<?>[numbers.length];
        Arrays.fill(types, int.class);
        Object[] arguments = new Object[numbers.length];
        for (int i = 0; i < numbers.length; i++) {
            arguments[i] = Integer.valueOf(numbers[i]);
        }
        Method method = TwoKerbs.class.getMethod(name, types);
        return ((Number) method.invoke(x, arguments)).longValue();
    }
}
