import java.io.IOException;
import java.lang.reflect.Method;
import java.nio.file.Files;
import java.nio.file.Path;
import java.util.Arrays;
import java.util.regex.Matcher;
import java.util.regex.Pattern;

/** The calls that README.md shows answer what it tells behind them. */
final class ReadmeTest {
    private static final Check CHECK = new Check();
    private static final Pattern ROW = Pattern.compile("bench\\.(\\w+)\\((.*)\\);(?:\\s+// (-?\\d+)\\b.*)?");
    private static final int CALLS_SHOWN = 12;

    public static void main(String[] args) throws IOException, ReflectiveOperationException {
        CHECK.sentence("README.md says how to use the class");
        QueueBench bench = new QueueBench();
        int calls = 0;
        for (String line : Files.readAllLines(Path.of("README.md"))) {
            Matcher row = ROW.matcher(line);
            if (row.matches()) {
                look(bench, row);
                calls++;
            }
        }
        CHECK.due("the number of calls shown", calls, CALLS_SHOWN);
        CHECK.end("ReadmeTest");
    }

    private static void look(QueueBench bench, Matcher row) throws ReflectiveOperationException {
        Object[] values = valuesOf(row.group(2));
        Class<?>[] types = new Class<?>[values.length];
        Arrays.fill(types, int.class);
        Method method = QueueBench.class.getMethod(row.group(1), types);
        Object got = method.invoke(bench, values);
        CHECK.due(row.group() + " tells an answer", row.group(3) == null ? 0 : 1, got == null ? 0 : 1);
        if (got != null && row.group(3) != null) {
            CHECK.due(row.group(), (Integer) got, Integer.parseInt(row.group(3)));
        }
    }

    private static Object[] valuesOf(String written) {
        if (written.isEmpty()) {
            return new Object[0];
        }
        return Arrays.stream(written.split(", ")).map(Integer::decode).toArray();
    }
}
