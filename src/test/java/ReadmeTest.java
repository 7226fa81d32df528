import java.lang.reflect.Method;
import java.nio.file.Files;
import java.nio.file.Path;
import java.util.regex.Matcher;
import java.util.regex.Pattern;

/** The calls of README.md's example, made in their order on one object, answer what is told behind them. */
public final class ReadmeTest {
    private static final Pattern CALL = Pattern.compile("(?m)^ways\\.(\\w+)\\(([-\\d, ]*)\\);\\s*// (-?\\d+)");
    private static final Pattern ANY_CALL = Pattern.compile("(?m)^ways\\.");
    private static final Checks checks = new Checks("ReadmeTest");

    public static void main(String[] args) throws Exception {
        String text = Files.readString(Path.of("README.md"));
        DredgeWays ways = new DredgeWays();
        int made = 0;
        for (Matcher m = CALL.matcher(text); m.find(); made++) {
            checks.due(m.group(1) + "(" + m.group(2) + ")", answer(ways, m.group(1), m.group(2)), Long.parseLong(m.group(3)));
        }
        checks.due("calls whose answer is told", made, ANY_CALL.matcher(text).results().count());
        checks.end();
    }

    private static int answer(DredgeWays ways, String name, String numbers) throws Exception {
        String[] parts = numbers.split(", *");
        Object[] values = new Object[parts.length];
        Class<?>[] types = new Class<?>[parts.length];
        for (int i = 0; i < parts.length; i++) {
            values[i] = Integer.valueOf(parts[i]);
            types[i] = int.class;
        }
        Method method = DredgeWays.class.getMethod(name, types);
        return (Integer) method.invoke(ways, values);
    }
}
