import java.lang.reflect.Method;
import java.lang.reflect.Modifier;
import java.nio.file.Files;
import java.nio.file.Path;
import java.util.regex.Matcher;
import java.util.regex.Pattern;

/** Every call in README.md that has a number behind it answers that number, and every call of the face is named. */
final class ReadmeTest {
    private static final Pattern CALL = Pattern.compile("x\\.(\\w+)\\(([^)]*)\\); +// (-?\\d+)");
    private static final Pattern TEXT = Pattern.compile("for \\(char c : \"([^\"]*)\"");

    public static void main(String[] args) throws Exception {
        String readme = Files.readString(Path.of(System.getProperty("project.root", "."), "README.md"));
        Matcher text = TEXT.matcher(readme);
        Due.isTrue("README.md writes a house", text.find());
        WakefulBed x = Cases.written(text.group(1));
        for (Matcher call = CALL.matcher(readme); call.find();) {
            Due.due(call.group(), answer(x, call.group(1), call.group(2)), Long.parseLong(call.group(3)));
        }
        for (Method method : WakefulBed.class.getDeclaredMethods()) {
            boolean isFace = Modifier.isPublic(method.getModifiers());
            Due.isTrue("README.md names " + method, !isFace || readme.contains("`" + method.getName() + "("));
        }
        Due.end();
    }

    private static long answer(WakefulBed x, String name, String numbers) throws Exception {
        String[] parts = numbers.isEmpty() ? new String[0] : numbers.split(", ");
        Class<?>[] types = new Class<?>[parts.length];
        Object[] values = new Object[parts.length];
        for (int place = 0; place < parts.length; place++) {
            types[place] = int.class;
            values[place] = Integer.parseInt(parts[place]);
        }
        Object told = WakefulBed.class.getMethod(name, types).invoke(x, values);
        return ((Number) told).longValue();
    }
}
