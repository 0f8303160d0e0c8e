import java.lang.reflect.Method;
import java.lang.reflect.Modifier;
import java.nio.file.Files;
import java.nio.file.Path;
import java.util.regex.Matcher;
import java.util.regex.Pattern;

/** README.md says how to use the class: what it shows is tried out, and no call of the face is left out. */
public final class ReadmeTest {
    private static final Checks CHECKS = new Checks();
    /** A call on x with the answer behind it, as the page writes them. */
    private static final Pattern CALL = Pattern.compile("x\\.(\\w+)\\((.*)\\); +// (-?\\d+|true|false)\\b.*");

    public static void main(String[] args) throws Exception {
        String page = Files.readString(Path.of("README.md"));
        shownCalls(block(page, "java"));
        CHECKS.due("the text that is shown tells bills", Checks.read(new HedgeRecord(), block(page, "text")), 2);
        namedCalls(page);
        CHECKS.finish();
    }

    private static String block(String page, String language) {
        String from = "```" + language + "\n";
        int start = page.indexOf(from) + from.length();
        return page.substring(start, page.indexOf("```", start));
    }

    private static void shownCalls(String shown) throws Exception {
        HedgeRecord x = new HedgeRecord();
        int calls = 0;
        for (String line : shown.split("\n")) {
            Matcher call = CALL.matcher(line);
            if (call.matches()) {
                calls++;
                CHECKS.due(line, answer(x, call.group(1), call.group(2)).equals(call.group(3)), true);
            } else {
                CHECKS.due("'" + line + "' is a call with its answer", line.startsWith("x."), false);
            }
        }
        CHECKS.due("calls were shown: " + calls, calls > 0, true);
    }

    private static String answer(HedgeRecord x, String name, String values) throws Exception {
        String[] parts = values.isEmpty() ? new String[0] : values.split(", *");
        Class<?>[] types = new Class<?>[parts.length];
        Object[] numbers = new Object[parts.length];
        for (int i = 0; i < parts.length; i++) {
            types[i] = int.class;
            numbers[i] = Integer.decode(parts[i]);
        }
        return String.valueOf(HedgeRecord.class.getMethod(name, types).invoke(x, numbers));
    }

    private static void namedCalls(String page) {
        for (Method m : HedgeRecord.class.getDeclaredMethods()) {
            if (Modifier.isPublic(m.getModifiers())) {
                CHECKS.due("README.md names " + m.getName(), page.contains("`" + m.getName() + "`"), true);
            }
        }
    }
}
