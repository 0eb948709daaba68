import java.io.IOException;
import java.lang.reflect.Method;
import java.nio.file.Files;
import java.nio.file.Path;
import java.util.regex.Matcher;
import java.util.regex.Pattern;

/** README.md's examples: each call answers what its comment begins with. */
public final class ReadmeTest {
    private static final Pattern CALL = Pattern.compile("x\\.(\\w+)\\(([-\\d, ]*)\\);\\s+// (-?\\d+)\\b.*");
    private static final String NEW = "GatePatch x = new GatePatch();";

    public static void main(String[] args) throws IOException, ReflectiveOperationException {
        int rows = 0, wrong = 0;
        boolean inside = false;
        GatePatch x = null;
        for (String line : Files.readAllLines(Path.of("README.md"))) {
            if (line.startsWith("```")) inside = line.equals("```java");
            if (!inside || line.startsWith("```")) continue;
            if (line.equals(NEW)) {
                x = new GatePatch();
                continue;
            }
            Matcher call = CALL.matcher(line);
            long got = 0;
            boolean read = call.matches() && x != null;
            if (read) got = answer(x, call.group(1), call.group(2));
            if (!read || got != Long.parseLong(call.group(3))) {
                wrong++;
                System.out.println(line + (read ? " answered " + got : " can't be read"));
            }
            rows++;
        }
        System.out.println(wrong == 0 ? rows + " rows of README.md are as due" : wrong + " rows of README.md are wrong");
        if (wrong != 0 || rows == 0) System.exit(1);
    }

    private static long answer(GatePatch x, String name, String given) throws ReflectiveOperationException {
        String[] parts = given.isEmpty() ? new String[0] : given.split(", ");
        for (Method m : GatePatch.class.getMethods()) {
            if (!m.getName().equals(name) || m.getParameterCount() != parts.length) continue;
            Object[] args = new Object[parts.length];
            for (int i = 0; i < parts.length; i++) {
                if (m.getParameterTypes()[i] == int.class) args[i] = Integer.valueOf(parts[i]); else args[i] = Long.valueOf(parts[i]);
            }
            return ((Number) m.invoke(x, args)).longValue();
        }
        throw new NoSuchMethodException(name);
    }
}
