import java.io.IOException;
import java.lang.reflect.Method;
import java.lang.reflect.Modifier;
import java.nio.file.Files;
import java.nio.file.Path;
import java.util.regex.Matcher;
import java.util.regex.Pattern;

/** What README.md shows is so: each call in it answers what stands behind it, and no method is left untold. */
public final class ReadmeTest {
    private static final Check check = new Check();
    private static final Pattern CALL = Pattern.compile("desk\\.(\\w+)\\((.*?)\\); +// (true|false|-?\\d+)(:.*)?");

    public static void main(String[] args) throws IOException, ReflectiveOperationException {
        String readme = Files.readString(Path.of("README.md"));
        boolean code = false;
        HelpDesk desk = null;
        for (String line : readme.split("\n")) {
            if (line.startsWith("```")) {
                code = line.equals("```java");
            } else if (line.equals("HelpDesk desk = new HelpDesk();")) {
                desk = new HelpDesk();
            } else if (code) {
                answer(desk, line);
            }
        }
        for (Method method : HelpDesk.class.getDeclaredMethods()) {
            boolean told = Pattern.compile("\\b" + method.getName() + "\\b").matcher(readme).find();
            check.due(0, "README.md tells of " + method.getName(),
                    told || !Modifier.isPublic(method.getModifiers()), true);
        }
        check.finish();
    }

    private static void answer(HelpDesk desk, String line) throws ReflectiveOperationException {
        Matcher m = CALL.matcher(line);
        boolean isCall = desk != null && m.matches();
        check.due(0, "README.md has a call with its answer: " + line, isCall, true);
        if (isCall) {
            Object got = method(m.group(1)).invoke(desk, numbers(m.group(2)));
            check.due(0, "README.md: " + line + " answered " + got, got.toString().equals(m.group(3)), true);
        }
    }

    private static Method method(String name) {
        for (Method method : HelpDesk.class.getDeclaredMethods()) {
            if (method.getName().equals(name)) {
                return method;
            }
        }
        throw new IllegalArgumentException(name);
    }

    private static Object[] numbers(String text) {
        String[] words = text.isEmpty() ? new String[0] : text.split(", ");
        Object[] values = new Object[words.length];
        for (int i = 0; i < words.length; i++) {
            values[i] = words[i].matches("true|false") ? (Object) Boolean.valueOf(words[i]) : Integer.decode(words[i]);
        }
        return values;
    }
}
