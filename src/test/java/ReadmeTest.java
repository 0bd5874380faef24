import java.io.IOException;
import java.lang.reflect.InvocationTargetException;
import java.lang.reflect.Method;
import java.nio.file.Files;
import java.nio.file.Path;
import java.util.Set;
import java.util.TreeSet;
import java.util.regex.Matcher;
import java.util.regex.Pattern;

/** The example in README.md, line by line: each call answers what stands behind it, and none is left out. */
public final class ReadmeTest {
    private static final Pattern WRITTEN = Pattern.compile("for \\(char c : \"(.*)\"\\.toCharArray\\(\\)\\) desk\\.write\\(c\\);");
    private static final Pattern CALL = Pattern.compile("desk\\.(\\w+)\\((.*)\\); +// ([-0-9.]+)(: .*)?");

    public static void main(String[] args) throws IOException {
        PartsDesk desk = new PartsDesk();
        Set<String> shown = new TreeSet<>();
        for (String line : exampleLines()) {
            Matcher written = WRITTEN.matcher(line);
            Matcher call = CALL.matcher(line);
            if (written.matches()) {
                Check.write(desk, written.group(1));
                shown.add("write");
            } else if (call.matches()) {
                Check.due(line, call.group(3), () -> answer(desk, call.group(1), call.group(2)));
                shown.add(call.group(1));
            } else {
                Check.due("a line that is no call: " + line, true, () -> line.isEmpty() || line.startsWith("PartsDesk desk = new PartsDesk();"));
            }
        }
        Check.due("the calls shown", publicNames(), () -> shown);
        Check.end();
    }

    private static String[] exampleLines() throws IOException {
        String text = Files.readString(Path.of("README.md"));
        String mark = "```java\n";
        int start = text.indexOf(mark);
        int end = text.indexOf("```", start + mark.length());
        return start < 0 || end < 0 ? new String[0] : text.substring(start + mark.length(), end).split("\n");
    }

    private static Set<String> publicNames() {
        Set<String> names = new TreeSet<>();
        for (Method method : PartsDesk.class.getMethods()) {
            if (method.getDeclaringClass() == PartsDesk.class) {
                names.add(method.getName());
            }
        }
        return names;
    }

    private static Object answer(PartsDesk desk, String name, String arguments) {
        String[] texts = arguments.isEmpty() ? new String[0] : arguments.split(", ");
        for (Method method : PartsDesk.class.getMethods()) {
            if (method.getName().equals(name) && method.getParameterCount() == texts.length) {
                return invoke(desk, method, texts);
            }
        }
        return "no such call";
    }

    private static Object invoke(PartsDesk desk, Method method, String[] texts) {
        Object[] values = new Object[texts.length];
        for (int i = 0; i < texts.length; i++) {
            boolean isDouble = method.getParameterTypes()[i] == double.class;
            // Not by ?: since that would make a double of both.
            if (isDouble) {
                values[i] = Double.valueOf(texts[i]);
            } else {
                values[i] = Integer.valueOf(texts[i]);
            }
        }
        try {
            return method.invoke(desk, values);
        } catch (IllegalAccessException | InvocationTargetException e) {
            return "throws." + e.getCause();
        }
    }
}
