import java.io.IOException;
import java.lang.reflect.Method;
import java.nio.file.Files;
import java.nio.file.Path;
import java.util.Arrays;
import java.util.regex.Matcher;
import java.util.regex.Pattern;

/** The examples of README.md: each call is made on one object, in its order, and must answer what stands behind it. */
public final class ReadmeTest {
    private static final Pattern PUT = Pattern.compile("put\\(x, \"([^\"]*)\"\\);");
    private static final Pattern CALL = Pattern.compile("x\\.(\\w+)\\(([-\\d, ]*)\\); *// (-?\\d+|true|false)\\b.*");

    private ReadmeTest() {
    }

    public static void main(String[] args) throws IOException, ReflectiveOperationException {
        UnequalHours x = new UnequalHours();
        int calls = 0;
        for (String line : Files.readAllLines(Path.of("README.md"))) {
            Matcher put = PUT.matcher(line);
            Matcher call = CALL.matcher(line);
            if (put.matches()) {
                Checks.put(x, put.group(1));
            } else if (call.matches()) {
                Checks.due("README.md: " + line + " it", answer(x, call.group(1), call.group(2)), wanted(call.group(3)));
                calls++;
            }
        }
        Checks.due("README.md has examples", calls > 20, true);
        Checks.close("ReadmeTest");
    }

    private static int answer(UnequalHours x, String name, String arguments) throws ReflectiveOperationException {
        Object[] given = arguments.isEmpty() ? new Object[0]
            : Arrays.stream(arguments.split(", ")).map(Integer::valueOf).toArray();
        Class<?>[] kinds = new Class<?>[given.length];
        Arrays.fill(kinds, int.class);
        Method method = UnequalHours.class.getMethod(name, kinds);
        Object answer = method.invoke(x, given);
        return answer instanceof Boolean told ? wanted("" + told) : (Integer) answer;
    }

    private static int wanted(String told) {
        return told.equals("true") ? 1 : told.equals("false") ? 0 : Integer.parseInt(told);
    }
}
