import java.io.IOException;
import java.lang.reflect.InvocationTargetException;
import java.lang.reflect.Method;
import java.lang.reflect.Modifier;
import java.nio.file.Files;
import java.nio.file.Path;
import java.util.regex.Matcher;
import java.util.regex.Pattern;

/** What README.md shows: the calls of its example with their answers, and every call in its table. */
public final class ReadmeTest {
    private static final Check CHECK = new Check();
    private static final Pattern CALL = Pattern.compile("(?m)^x\\.(\\w+)\\((.*?)\\); *// (-?\\d+):");

    public static void main(String[] args) throws IOException, ReflectiveOperationException {
        String readme = Files.readString(Path.of("README.md"));
        calls(readme);
        table(readme);
        CHECK.finish();
    }

    private static void calls(String readme) throws ReflectiveOperationException {
        CHECK.title("README.md");
        SourceDispute x = new SourceDispute();
        Matcher m = CALL.matcher(readme);
        int many = 0;
        while (m.find()) {
            many++;
            CHECK.due(m.group(1) + "(" + m.group(2) + ")", answer(x, m.group(1), m.group(2)), Long.parseLong(m.group(3)));
        }
        CHECK.due("calls with answers", many, readme.split("\nx\\.").length - 1);
        CHECK.due("some calls", many > 20, true);
    }

    private static long answer(SourceDispute x, String name, String given)
            throws IllegalAccessException, InvocationTargetException {
        String[] words = given.isEmpty() ? new String[0] : given.split(", *");
        for (Method method : SourceDispute.class.getMethods()) {
            if (method.getName().equals(name) && method.getParameterCount() == words.length) {
                Object[] values = new Object[words.length];
                for (int i = 0; i < words.length; i++) {
                    boolean isBoolean = method.getParameterTypes()[i] == boolean.class;
                    values[i] = isBoolean ? (Object) Boolean.valueOf(words[i]) : (Object) Integer.decode(words[i]);
                }
                Object got = method.invoke(x, values);
                return got instanceof Boolean so ? (so ? 1 : 0) : (Integer) got;
            }
        }
        throw new IllegalStateException("no such call: " + name);
    }

    private static void table(String readme) {
        CHECK.title("the table of README.md");
        for (Method method : SourceDispute.class.getDeclaredMethods()) {
            if (Modifier.isPublic(method.getModifiers())) {
                boolean shown = Pattern.compile("(?m)^\\|.*`" + method.getName() + "`").matcher(readme).find();
                CHECK.due(method.getName(), shown, true);
            }
        }
    }
}
