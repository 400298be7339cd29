import java.io.IOException;
import java.lang.reflect.Method;
import java.lang.reflect.Modifier;
import java.nio.file.Files;
import java.nio.file.Path;
import java.util.HashMap;
import java.util.HashSet;
import java.util.Map;
import java.util.Set;
import java.util.regex.Matcher;
import java.util.regex.Pattern;

/** Makes the calls of README.md's example on one object: each must answer what is shown behind it. */
public final class ReadmeTest {
    private static final Pattern CALL = Pattern.compile("(?m)^x\\.(\\w+)\\((.*?)\\);\\s*// (-?\\d+)\\b");

    private static final Check check = new Check();
    private static final Map<String, Method> face = new HashMap<>();

    public static void main(String[] args) throws IOException, ReflectiveOperationException {
        for (Method method : AHandGoesUp.class.getDeclaredMethods()) {
            if (Modifier.isPublic(method.getModifiers())) {
                face.put(method.getName(), method);
            }
        }
        String readme = Files.readString(Path.of(args[0]).toAbsolutePath().resolve("../../../../README.md").normalize());
        AHandGoesUp x = new AHandGoesUp();
        Set<String> shown = new HashSet<>();
        Matcher call = CALL.matcher(readme);
        while (call.find()) {
            shown.add(call.group(1));
            check.due(call.group(), answer(x, face.get(call.group(1)), call.group(2)), Long.parseLong(call.group(3)));
        }
        check.due("methods that README.md shows", shown.size(), face.size());
        check.due("calls that README.md shows without an answer", linesWith(readme, "x.") - linesWith(readme, CALL), 0);
        check.end();
    }

    private static long answer(AHandGoesUp x, Method method, String told) throws ReflectiveOperationException {
        Class<?>[] types = method.getParameterTypes();
        String[] each = told.isEmpty() ? new String[0] : told.split(", ");
        Object[] values = new Object[types.length];
        for (int i = 0; i < types.length; i++) {
            values[i] = value(each[i], types[i]);
        }
        return ((Number) method.invoke(x, values)).longValue();
    }

    private static Object value(String told, Class<?> type) {
        if (type == boolean.class) {
            return told.equals("true");
        }
        long number = number(told);
        if (type == int.class) {
            return (int) number;
        }
        return number;
    }

    private static long number(String told) {
        String figures = told.replace("L", "");
        if (figures.startsWith("0b")) {
            return Long.parseLong(figures.substring(2), 2);
        }
        return Long.decode(figures);
    }

    private static long linesWith(String text, String start) {
        return text.lines().filter(line -> line.startsWith(start)).count();
    }

    private static long linesWith(String text, Pattern pattern) {
        return pattern.matcher(text).results().count();
    }
}
