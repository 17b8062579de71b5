import java.lang.reflect.Method;
import java.lang.reflect.Modifier;
import java.nio.charset.StandardCharsets;
import java.nio.file.Files;
import java.nio.file.Path;
import java.util.HashMap;
import java.util.HashSet;
import java.util.List;
import java.util.Map;
import java.util.Set;
import java.util.regex.Matcher;
import java.util.regex.Pattern;

/** The examples of README.md answer as they say, and show every call; so the page stays true. */
public final class ReadmeTest {
    private static final Pattern CALL = Pattern.compile("church\\.(\\w+)\\(([^)]*)\\); +// (-?\\d+)(:.*)?");
    private static final Pattern TELL = Pattern.compile("tell\\(church, \"([^\"]*)\"\\); +// (-?\\d+)(:.*)?");

    private static final Map<String, Method> FACE = new HashMap<>();
    private static final Set<String> SHOWN = new HashSet<>();
    private static TwoHeads church;

    public static void main(String[] args) throws Exception {
        for (Method m : TwoHeads.class.getDeclaredMethods()) {
            if (Modifier.isPublic(m.getModifiers())) FACE.put(m.getName(), m);
        }
        List<String> lines = Files.readAllLines(Path.of("README.md"), StandardCharsets.US_ASCII);
        boolean inJava = false;
        for (String line : lines) {
            if (line.startsWith("```")) inJava = line.equals("```java");
            else if (inJava) follow(line);
        }
        for (String name : FACE.keySet()) Check.holds("README.md shows " + name, SHOWN.contains(name));
        Check.end();
    }

    /** Examples begin at the line's first sign; what is further in, or ends a block, is the helper's own body. */
    private static void follow(String line) throws Exception {
        Matcher call = CALL.matcher(line);
        Matcher tell = TELL.matcher(line);
        if (line.equals("TwoHeads church = new TwoHeads();")) church = new TwoHeads();
        else if (call.matches()) Check.due(line, answer(call.group(1), call.group(2)), Long.parseLong(call.group(3)));
        else if (tell.matches()) Check.due(line, Check.text(church, tell.group(1)), Long.parseLong(tell.group(2)));
        else Check.holds("an example can be followed: " + line, line.matches(" .*|}|static int tell.*"));
    }

    private static long answer(String name, String numbers) throws Exception {
        Method m = FACE.get(name);
        if (m == null) throw new IllegalStateException("README.md calls " + name);
        SHOWN.add(name);
        String[] parts = numbers.isEmpty() ? new String[0] : numbers.split(", ");
        Object[] args = new Object[parts.length];
        for (int i = 0; i < args.length; i++) {
            boolean isLong = m.getParameterTypes()[i] == long.class;
            long number = Long.parseLong(parts[i].replace("L", ""));
            args[i] = isLong ? (Object) number : (Object) (int) number;
        }
        return ((Number) m.invoke(church, args)).longValue();
    }
}
