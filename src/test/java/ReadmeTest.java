import java.io.IOException;
import java.lang.reflect.Method;
import java.nio.file.Files;
import java.nio.file.Path;
import java.util.regex.Matcher;
import java.util.regex.Pattern;

/** The calls that README.md shows, each with its answer, are made in their order. */
final class ReadmeTest {
    private static final Pattern SHOWN = Pattern.compile("house\\.(\\w+)\\((.*?)\\); *// (-?\\d+)\\b.*");

    private ReadmeTest() {
    }

    static void run(String path) throws IOException, ReflectiveOperationException {
        Check.promise(0);
        HullKeepers house = new HullKeepers();
        int shown = 0;
        for (String line : Files.readAllLines(Path.of(path))) {
            Matcher m = SHOWN.matcher(line);
            if (m.matches()) {
                Check.due(line, answer(house, m.group(1), m.group(2)), Long.parseLong(m.group(3)));
                shown++;
            } else {
                Check.holds("an answer is shown: " + line, !line.startsWith("house."));
            }
        }
        Check.holds("README.md shows calls", shown > 0);
    }

    private static long answer(HullKeepers house, String name, String numbers) throws ReflectiveOperationException {
        String[] told = numbers.isEmpty() ? new String[0] : numbers.split(", ");
        for (Method m : HullKeepers.class.getMethods()) {
            if (m.getName().equals(name) && m.getDeclaringClass() == HullKeepers.class) {
                Object[] given = new Object[told.length];
                for (int i = 0; i < told.length; i++) {
                    given[i] = given(told[i], m.getParameterTypes()[i]);
                }
                return ((Number) m.invoke(house, given)).longValue();
            }
        }
        throw new NoSuchMethodException(name);
    }

    private static Object given(String told, Class<?> type) {
        if (type == boolean.class) {
            return Boolean.valueOf(told);
        }
        return told.startsWith("'") ? (int) told.charAt(1) : Integer.parseInt(told);
    }
}
