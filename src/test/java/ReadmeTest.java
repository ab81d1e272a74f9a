import java.io.IOException;
import java.lang.reflect.Method;
import java.nio.file.Files;
import java.nio.file.Path;
import java.util.ArrayList;
import java.util.List;
import java.util.regex.Matcher;
import java.util.regex.Pattern;

/** Makes the calls of README.md in their order; each answers what stands behind it there. */
public final class ReadmeTest {
    private static final Due DUE = new Due();
    private static final Pattern CALL = Pattern.compile("^    bank\\.(\\w+)\\((.*?)\\); +// (-?\\d+),.*");

    private final PaintBank bank = new PaintBank();
    private final StringBuilder text = new StringBuilder();

    public static void main(String[] args) throws IOException, ReflectiveOperationException {
        new ReadmeTest().makeCalls(Files.readAllLines(Path.of("README.md")));
        DUE.end();
    }

    private void makeCalls(List<String> lines) throws ReflectiveOperationException {
        int calls = 0;
        int typed = 0;
        for (String line : lines) {
            Matcher call = CALL.matcher(line);
            if (line.startsWith("    type(bank, ") || line.startsWith("            + \"")) {
                typed++;
                text.append(line, line.indexOf('"') + 1, line.lastIndexOf('"'));
            } else if (call.matches()) {
                calls++;
                typeText();
                DUE.same(line.trim(), answer(call.group(1), call.group(2)), Long.parseLong(call.group(3)));
            } else {
                DUE.no("a call without an answer: " + line, line.startsWith("    bank."));
            }
        }
        DUE.yes("README.md has calls", calls > 20);
        DUE.yes("README.md has texts", typed > 2);
    }

    /** A text may stand in several lines, so it is typed when the next call is made. */
    private void typeText() {
        if (text.length() > 0) {
            Due.type(bank, text.toString());
            text.setLength(0);
        }
    }

    private int answer(String name, String written) throws ReflectiveOperationException {
        List<Object> arguments = new ArrayList<>();
        for (String each : written.split(", *")) {
            if (!each.isEmpty()) {
                arguments.add(Integer.parseInt(each));
            }
        }
        Class<?>[] types = new Class<?>[arguments.size()];
        for (int i = 0; i < types.length; i++) {
            types[i] = int.class;
        }
        Method method = PaintBank.class.getMethod(name, types);
        return (Integer) method.invoke(bank, arguments.toArray());
    }
}
