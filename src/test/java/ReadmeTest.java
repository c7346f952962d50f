import java.io.IOException;
import java.lang.reflect.Method;
import java.lang.reflect.Modifier;
import java.nio.file.Files;
import java.nio.file.Path;
import java.util.regex.Matcher;
import java.util.regex.Pattern;

/** README.md: its example answers what it says, and it tells of each call; run from the project's folder. */
public final class ReadmeTest {
    private static final Pattern MADE = Pattern.compile("new RasterCover\\((\\d+), (\\d+), (\\d+)\\)");
    private static final Pattern CALL = Pattern.compile("(?m)^r\\.(\\w+)\\((.*)\\);(?: +// ([\\w-]+))?");

    public static void main(String[] args) throws IOException, ReflectiveOperationException {
        String text = Files.readString(Path.of("README.md"));
        checkExample(text);
        for (Method method : RasterCover.class.getDeclaredMethods()) {
            if (Modifier.isPublic(method.getModifiers())) {
                Check.due("README.md tells of " + method.getName(), text.contains("`" + method.getName() + "("), true);
            }
        }
        Check.finish();
    }

    private static void checkExample(String text) throws ReflectiveOperationException {
        Matcher made = MADE.matcher(text);
        Check.due("README.md makes an object", made.find(), true);
        RasterCover r = new RasterCover(
                Integer.parseInt(made.group(1)), Integer.parseInt(made.group(2)), Integer.parseInt(made.group(3)));
        Matcher call = CALL.matcher(text);
        int calls = 0;
        while (call.find()) {
            String got = String.valueOf(answer(r, call.group(1), call.group(2).split(", ")));
            boolean told = call.group(3) == null || got.equals(call.group(3));
            Check.due(call.group() + " (it answers " + got + ") is true", told, true);
            calls++;
        }
        Check.due("README.md has an example", calls > 0, true);
    }

    private static Object answer(RasterCover r, String name, String[] words) throws ReflectiveOperationException {
        for (Method method : RasterCover.class.getDeclaredMethods()) {
            if (method.getName().equals(name)) {
                Object[] values = new Object[method.getParameterCount()];
                for (int i = 0; i < values.length; i++) {
                    values[i] = value(words[i], method.getParameterTypes()[i]);
                }
                return method.invoke(r, values);
            }
        }
        return "no such call";
    }

    private static Object value(String word, Class<?> type) {
        if (type == boolean.class) {
            return Boolean.valueOf(word);
        }
        if (type == long.class) {
            return Long.valueOf(word);
        }
        return Integer.valueOf(word);
    }
}
