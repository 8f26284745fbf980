import java.io.IOException;
import java.lang.reflect.InvocationTargetException;
import java.lang.reflect.Method;
import java.nio.charset.StandardCharsets;
import java.nio.file.Files;
import java.nio.file.Path;
import java.util.regex.Matcher;
import java.util.regex.Pattern;

/** The examples of README.md: each call of a Java part that has an answer behind it gives this answer. */
final class ReadmeTests {
    private static final Pattern MADE = Pattern.compile("TornPageLog log = new TornPageLog\\(\\);.*");
    private static final Pattern TEXT = Pattern.compile("for \\(char c : \"([^\"]*)\".toCharArray\\(\\)\\) \\{");
    private static final Pattern CALL = Pattern.compile("log\\.(\\w+)\\(([-0-9, L]*)\\);\\s+// ([-\\w.]+).*");

    private TornPageLog log;

    private ReadmeTests() {
    }

    static void run() {
        try {
            String[] parts = Files.readString(Path.of("README.md"), StandardCharsets.UTF_8).split("```");
            int calls = 0;
            for (String part : parts) {
                if (part.startsWith("java\n")) {
                    calls += new ReadmeTests().example(part.substring(5));
                }
            }
            Check.isTrue("README.md has examples", calls > 20);
        } catch (IOException | ReflectiveOperationException e) {
            Check.wrong("README.md can't be tried: " + e);
        }
    }

    /** How many calls of an example have been tried. */
    private int example(String part) throws ReflectiveOperationException {
        int calls = 0;
        for (String line : part.split("\n")) {
            Matcher text = TEXT.matcher(line);
            Matcher call = CALL.matcher(line);
            if (MADE.matcher(line).matches()) {
                log = new TornPageLog();
            } else if (text.matches()) {
                text.group(1).chars().forEach(log::append);
            } else if (call.matches()) {
                String due = call.group(3).replace("TornPageLog.NONE", "-9").replace("TornPageLog.CUT", "-2");
                Check.same("README.md: " + line, answer(call.group(1), call.group(2)), due);
                calls++;
            } else {
                Check.isTrue("README.md has a line that is not tried: " + line,
                        line.isEmpty() || line.equals("    log.append(c);") || line.equals("}"));
            }
        }
        return calls;
    }

    private String answer(String name, String arguments) throws ReflectiveOperationException {
        String[] numbers = arguments.isEmpty() ? new String[0] : arguments.split(", ");
        for (Method m : TornPageLog.class.getDeclaredMethods()) {
            if (m.getName().equals(name) && m.getParameterCount() == numbers.length) {
                Object[] values = new Object[numbers.length];
                for (int i = 0; i < values.length; i++) {
                    boolean wide = m.getParameterTypes()[i] == long.class;
                    values[i] = wide ? (Object) Long.valueOf(numbers[i].replace("L", "")) : Integer.valueOf(numbers[i]);
                }
                try {
                    return String.valueOf(m.invoke(log, values));
                } catch (InvocationTargetException e) {
                    return e.getCause().getClass().getSimpleName();
                }
            }
        }
        return "no such method";
    }
}
