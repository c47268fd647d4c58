import java.lang.reflect.Method;
import java.lang.reflect.Modifier;
import java.nio.file.Files;
import java.nio.file.Path;
import java.util.HashMap;
import java.util.Map;
import java.util.Set;
import java.util.TreeSet;
import java.util.regex.Matcher;
import java.util.regex.Pattern;

/** Runs the calls that README.md shows, as they stand there: each must answer what is told behind it, and none may lack. */
public final class ReadmeTest {
    private static final Pattern CALL = Pattern.compile(" {4}x\\.(\\w+)\\(([^)]*)\\); +// (-?\\w+).*");

    public static void main(String[] args) throws Exception {
        Map<String, Method> face = face();
        Set<String> lacking = new TreeSet<>(face.keySet());
        TokenValley x = new TokenValley();
        for (String line : Files.readAllLines(Path.of("README.md"))) {
            if (!line.startsWith("    x.")) continue;
            Matcher m = CALL.matcher(line);
            Due.due("a call with its answer: " + line, m.matches() ? 1 : 0, 1);
            if (!m.matches()) continue;
            Method call = face.get(m.group(1));
            Due.due("a call of the face: " + line, call == null ? 0 : 1, 1);
            if (call == null) continue;
            lacking.remove(m.group(1));
            Due.due(line.trim(), (Integer) call.invoke(x, arguments(m.group(2))), answer(m.group(3)));
        }
        for (String name : lacking) Due.due("README.md does not show " + name, 1, 0);
        Due.end();
    }

    private static Map<String, Method> face() {
        Map<String, Method> face = new HashMap<>();
        for (Method m : TokenValley.class.getDeclaredMethods()) {
            if (Modifier.isPublic(m.getModifiers())) face.put(m.getName(), m);
        }
        return face;
    }

    private static Object[] arguments(String told) {
        if (told.isEmpty()) return new Object[0];
        String[] parts = told.split(", ");
        Object[] numbers = new Object[parts.length];
        for (int i = 0; i < parts.length; i++) numbers[i] = Integer.decode(parts[i]);
        return numbers;
    }

    private static int answer(String told) throws Exception {
        if (told.matches("-?\\d+")) return Integer.parseInt(told);
        return TokenValley.class.getField(told).getInt(null);
    }
}
